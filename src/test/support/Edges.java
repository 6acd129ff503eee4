/**
 * What the tests of edges share. An edge is one sentence of the document that names a boundary case; it is tested on
 * objects of its own, each of which is used for at most 512 calls.
 */
abstract class Edges {
    static final int INVALID = GiftPurposes.INVALID_ARGUMENT;
    static final int IMPOSSIBLE = GiftPurposes.NOT_POSSIBLE;
    static final int LIMIT = GiftPurposes.LIMIT_REACHED;
    static final int MISSING = GiftPurposes.NOT_FOUND;

    /** Far outside of each range; some of them wrap around to what is inside if they are cut to 16 or 8 bits. */
    private static final int[] FAR = {Integer.MIN_VALUE, Integer.MIN_VALUE + 1, -65535, -255, (1 << 20) + 1,
        (1 << 20) + 60, (1 << 24) + 1, Integer.MAX_VALUE - 1, Integer.MAX_VALUE};
    private static final int MOST_STATES = 4;

    private static int promise = 0;
    private static String sentence = "";
    private static boolean holds = true;
    private static int passed = 0;
    private static int failed = 0;

    interface Made {
        GiftPurposes make();
    }

    interface Call {
        int on(GiftPurposes x);
    }

    interface Asked {
        int on(GiftPurposes x, int value);
    }

    // ---- edges and what is due

    /** The edges that follow are those of this promise. */
    static void promise(int number) {
        promise = number;
    }

    static void edge(String ofSentence, Runnable test) {
        sentence = ofSentence;
        holds = true;
        try {
            test.run();
        } catch (RuntimeException thrown) {
            tellFault("threw " + thrown);
        }
        if (holds) {
            passed++;
        } else {
            failed++;
        }
    }

    static void finish() {
        System.out.println(passed + " edges hold, " + failed + " do not");
        if (failed > 0 || passed == 0) {
            System.exit(1);
        }
    }

    static void due(String call, int got, int want) {
        if (got != want) {
            tellFault(call + " answered " + got + ", due is " + want);
        }
    }

    private static void same(String what, String got, String want) {
        if (!got.equals(want)) {
            tellFault(what + ":\n  is  " + got + "\n  due " + want);
        }
    }

    private static void tellFault(String fault) {
        holds = false;
        System.out.println("promise " + promise + ", \"" + sentence + "\": " + fault);
    }

    /** The funds of the purposes from 0 on. */
    static void funds(GiftPurposes x, int... want) {
        for (int purpose = 0; purpose < want.length; purpose++) {
            due("purposeOf(" + purpose + ", 0)", x.purposeOf(purpose, 0), want[purpose]);
        }
    }

    // ---- calls that change nothing, and changes

    /** The call returns the error and changes nothing: not what is told, not the text, no state of the history. */
    static void refused(Made made, String call, Call refusedCall, int error) {
        leavesAll(made, call, refusedCall, error);
    }

    /** The call tells this, and changes nothing. */
    static void tells(Made made, String call, Call telling, int want) {
        leavesAll(made, call, telling, want);
    }

    private static void leavesAll(Made made, String call, Call leaving, int want) {
        int states = made.make().count(11);
        for (int undone = 0; undone <= states; undone++) {
            GiftPurposes with = made.make();
            GiftPurposes without = made.make();
            due(call, leaving.on(with), want);
            undo(with, undone);
            undo(without, undone);
            same("after " + call + " and " + undone + " undo()", told(with), told(without));
        }
    }

    /** The call returns no error; it is a change, which is one state of the history and leaves the text. */
    static void changes(Made made, String call, Call change, int want) {
        int states = made.make().count(11);
        for (int undone = 0; undone <= Math.min(states, MOST_STATES - 1); undone++) {
            GiftPurposes with = made.make();
            GiftPurposes without = made.make();
            due(call, change.on(with), want);
            due("states after " + call, with.count(11), Math.min(states + 1, MOST_STATES));
            undo(with, undone + 1);
            undo(without, undone);
            same("before " + call + " and " + undone + " changes", books(with), books(without));
            same("text after " + call, text(with), text(without));
        }
        GiftPurposes emptied = made.make();
        change.on(emptied);
        undo(emptied, Math.min(states + 1, MOST_STATES));
        due("undo() of what was before all states", emptied.undo(), IMPOSSIBLE);
    }

    /** These values, those outside of a range that are nearest to it, and far ones are refused. */
    static void outside(Made made, String call, Asked asked, int... nearest) {
        for (int value : nearest) {
            refused(made, call + ", v = " + value, x -> asked.on(x, value), INVALID);
        }
        for (int value : FAR) {
            refused(made, call + ", v = " + value, x -> asked.on(x, value), INVALID);
        }
    }

    private static void undo(GiftPurposes x, int times) {
        for (int time = 0; time < times; time++) {
            x.undo();
        }
    }

    // ---- what is told

    private static String told(GiftPurposes x) {
        return books(x) + "states " + x.count(11) + ' ' + text(x);
    }

    private static String text(GiftPurposes x) {
        return "text " + x.count(12) + ' ' + x.fault(0) + ' ' + x.fault(1) + ' ' + x.fault(2);
    }

    /** All but the history and the text. */
    static String books(GiftPurposes x) {
        StringBuilder all = new StringBuilder("counts ");
        for (int what = 0; what < 15; what++) {
            all.append(what == 11 || what == 12 ? "" : x.count(what) + " ");
        }
        for (int purpose = 0; purpose < x.count(0); purpose++) {
            all.append("| purpose ");
            for (int what = 0; what < 12; what++) {
                all.append(x.purposeOf(purpose, what)).append(' ');
            }
        }
        for (int donor = 0; donor < x.count(1); donor++) {
            all.append("| donor ");
            for (int what = 0; what < 10 + x.count(0); what += what == 4 ? 6 : 1) {
                all.append(x.donorOf(donor, what)).append(' ');
            }
        }
        for (int gift = 0; gift < x.count(2); gift++) {
            all.append("| gift ");
            for (int what = 0; what < 8; what++) {
                all.append(x.giftOf(gift, what)).append(' ');
            }
        }
        for (int pledge = 0; pledge < x.count(3); pledge++) {
            all.append("| pledge ");
            for (int what = 0; what < 8; what++) {
                all.append(x.pledgeOf(pledge, what)).append(' ');
            }
        }
        return all.toString();
    }

    // ---- objects to begin with

    /** Purposes 0 to purposes - 1 and donors 0 to donors - 1. */
    static GiftPurposes with(int purposes, int donors) {
        GiftPurposes x = new GiftPurposes();
        for (int made = 1; made < purposes; made++) {
            x.purpose();
        }
        for (int made = 0; made < donors; made++) {
            x.donor();
        }
        return x;
    }

    /** As with(purposes, donors), all of whom declare. */
    static GiftPurposes declared(int purposes, int donors) {
        GiftPurposes x = with(purposes, donors);
        for (int donor = 0; donor < donors; donor++) {
            x.declare(donor, 1);
        }
        return x;
    }

    /**
     * Something of each kind, with four states and a text. Purposes 0, 2 and 3 are open, 1 was merged into 2. Donors
     * are 0 (who declares) to 2, gifts 0 to 3 (0 and 2 claimed, 1 refunded), pledges 0 (runs, and will miss) to 2.
     */
    static GiftPurposes busy() {
        GiftPurposes x = with(4, 3);
        x.declare(0, 1);
        x.give(0, 1, 100);
        x.give(1, 1, 50);
        x.give(0, 2, 80);
        x.give(2, 0, 300);
        x.pledge(0, 2, 10, 5);
        x.pledge(1, 1, 20, 6);
        x.pledge(2, 0, 5, 9);
        x.stop(2);
        x.agree(0, 1, 2);
        x.merge(1, 2);
        x.agree(1, 3, 2);
        x.miss(0);
        x.claim();
        x.refund(1);
        x.spend(3, 7);
        x.set(0, 70);
        return write(x, "give 0 0 5;claim;");
    }

    /** The general purpose, donor 0, and so many gifts of 1. */
    static GiftPurposes withGifts(int gifts) {
        return give(with(1, 1), 0, gifts);
    }

    /** Lets donor 0 give 1 for a purpose so many times. */
    static GiftPurposes give(GiftPurposes x, int purpose, int times) {
        for (int time = 0; time < times; time++) {
            x.give(0, purpose, 1);
        }
        return x;
    }

    /** Donor 0 with pledge 0, of 10 a month. */
    static GiftPurposes pledged(int months) {
        GiftPurposes x = with(1, 1);
        x.pledge(0, 0, 10, months);
        return x;
    }

    static GiftPurposes missMonths(GiftPurposes x, int pledge, int months) {
        for (int month = 0; month < months; month++) {
            x.miss(pledge);
            x.pass(1);
        }
        return x;
    }

    /** Merges a purpose by the consent of donor 0, to whom all gifts for it belong. */
    static GiftPurposes merged(GiftPurposes x, int from, int into) {
        x.agree(0, from, into);
        x.merge(from, into);
        return x;
    }

    static GiftPurposes goTo(GiftPurposes x, int month) {
        while (x.count(4) < month) {
            x.pass(Math.min(60, month - x.count(4)));
        }
        return x;
    }

    /** Puts this in place of the text. */
    static GiftPurposes write(GiftPurposes x, String text) {
        x.clearText();
        for (int at = 0; at < text.length(); at++) {
            x.type(text.charAt(at));
        }
        return x;
    }
}
