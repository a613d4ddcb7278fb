/**
 * All that can be seen of an object, as one text: a call that changes nothing leaves it as it was. To look takes some
 * 250 calls and RESTORES at its end what THE IMAGE holds, so an object is looked at last of all, and once.
 */
final class Whole {
    private Whole() {
    }

    static String of(BackwardYears x) {
        StringBuilder seen = new StringBuilder();
        town(x, seen);
        for (int d = 0; d < 8; d++) {
            shelf(x, d, seen);
        }
        seen.append("\nimage ").append(x.restore());
        town(x, seen);
        return seen.toString();
    }

    private static void town(BackwardYears x, StringBuilder seen) {
        seen.append("\nmarks ").append(x.marks()).append(" rise ").append(x.rise()).append(" state");
        for (int what = 0; what < 4; what++) {
            seen.append(' ').append(x.state(what));
        }
        for (int deed = 0; deed < x.count(0); deed++) {
            seen.append("\ndeed");
            for (int what = 0; what < 5; what++) {
                seen.append(' ').append(x.deed(deed, what));
            }
        }
    }

    private static void shelf(BackwardYears x, int d, StringBuilder seen) {
        // A place that isn't there tells nothing, another kind and bytes apart; copies of 0 elements the sorts.
        seen.append("\nshelf ").append(x.why(d, 0, -1)).append(" sorts");
        for (int e = 0; e < 8; e++) {
            seen.append(' ').append(x.copy(d, 0, e, 0, 0));
        }
        seen.append(" deed ").append(x.care(d)).append(' ').append(x.toss(d)).append(" elements");
        for (int i = 0; i < 100; i++) {
            try {
                seen.append(' ').append(x.element(d, i));
            } catch (IllegalStateException e) {
                break;
            }
        }
    }
}
