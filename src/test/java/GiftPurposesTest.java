/**
 * Tests of the promises 1 to 28, one method a promise: ordinary inputs, the edges that the document names, and wrong
 * inputs. The main method prints every answer that is not due, then how many answers passed and failed.
 */
public final class GiftPurposesTest {
    private static final int INVALID = -1;
    private static final int IMPOSSIBLE = -2;
    private static final int LIMIT = -3;
    private static final int MISSING = -4;
    private static final int[] FAR = {Integer.MIN_VALUE, -1000000, 1000000, Integer.MAX_VALUE};

    private static int passed = 0;
    private static int failed = 0;
    private static int promise = 0;

    public static void main(String[] arguments) {
        Runnable[] tests = {
            GiftPurposesTest::newObject, GiftPurposesTest::purpose, GiftPurposesTest::donor,
            GiftPurposesTest::declare, GiftPurposesTest::give, GiftPurposesTest::pledge, GiftPurposesTest::miss,
            GiftPurposesTest::stop, GiftPurposesTest::claim, GiftPurposesTest::spend, GiftPurposesTest::agree,
            GiftPurposesTest::merge, GiftPurposesTest::refund, GiftPurposesTest::pass, GiftPurposesTest::set,
            GiftPurposesTest::purposeOf, GiftPurposesTest::donorOf, GiftPurposesTest::giftOf,
            GiftPurposesTest::pledgeOf, GiftPurposesTest::count, GiftPurposesTest::wouldClaim,
            GiftPurposesTest::consents, GiftPurposesTest::later, GiftPurposesTest::undo, GiftPurposesTest::type,
            GiftPurposesTest::clearText, GiftPurposesTest::fault, GiftPurposesTest::play};
        for (Runnable test : tests) {
            promise++;
            test.run();
        }
        System.out.println(passed + " passed, " + failed + " failed");
        if (failed > 0) {
            System.exit(1);
        }
    }

    private static void due(String call, int got, int want) {
        if (got == want) {
            passed++;
        } else {
            failed++;
            System.out.println("promise " + promise + ": " + call + " answered " + got + ", due is " + want);
        }
    }

    /** An object with purposes 0 to purposes - 1 and donors 0 to donors - 1. */
    private static GiftPurposes with(int purposes, int donors) {
        GiftPurposes x = new GiftPurposes();
        for (int made = 1; made < purposes; made++) {
            x.purpose();
        }
        for (int made = 0; made < donors; made++) {
            x.donor();
        }
        return x;
    }

    private static void write(GiftPurposes x, String text) {
        x.clearText();
        for (int at = 0; at < text.length(); at++) {
            x.type(text.charAt(at));
        }
    }

    /** The three answers of fault for a text. */
    private static void faults(GiftPurposes x, String text, int position, int reason, int cause) {
        write(x, text);
        due("fault(0) of \"" + text + "\"", x.fault(0), position);
        due("fault(1) of \"" + text + "\"", x.fault(1), reason);
        due("fault(2) of \"" + text + "\"", x.fault(2), cause);
    }

    private static void funds(GiftPurposes x, int... want) {
        for (int purpose = 0; purpose < want.length; purpose++) {
            due("fund of " + purpose, x.purposeOf(purpose, 0), want[purpose]);
        }
    }

    /** A refused call leaves everything as it was, the history included. */
    private static void states(GiftPurposes x, int want) {
        due("states", x.count(11), want);
    }

    private static void newObject() {
        GiftPurposes x = new GiftPurposes();
        int[] counts = {1, 0, 0, 0, 0, 0, 0, 0, 0, 0, 0, 0, 0, 60, 5000};
        for (int what = 0; what < counts.length; what++) {
            due("count(" + what + ")", x.count(what), counts[what]);
        }
        int[] general = {0, 0, 0, 0, 0, 0, 0, 0, 0, MISSING, 0, 0};
        for (int what = 0; what < general.length; what++) {
            due("purposeOf(0, " + what + ")", x.purposeOf(0, what), general[what]);
        }
        due("undo()", x.undo(), IMPOSSIBLE);
        due("INVALID_ARGUMENT", GiftPurposes.INVALID_ARGUMENT, -1);
        due("NOT_POSSIBLE", GiftPurposes.NOT_POSSIBLE, -2);
        due("LIMIT_REACHED", GiftPurposes.LIMIT_REACHED, -3);
        due("NOT_FOUND", GiftPurposes.NOT_FOUND, -4);
    }

    private static void purpose() {
        GiftPurposes x = new GiftPurposes();
        for (int number = 1; number < 6; number++) {
            due("purpose()", x.purpose(), number);
            due("purposes", x.count(0), number + 1);
            due("home", x.purposeOf(number, 10), number);
            due("merged into", x.purposeOf(number, 9), MISSING);
        }
        x.undo();
        due("purpose()", x.purpose(), 5);
        due("purpose()", x.purpose(), LIMIT);
        due("purposes", x.count(0), 6);
        states(x, 4);
        // a closed purpose still has its number
        x.donor();
        x.give(0, 1, 1);
        x.agree(0, 1, 2);
        due("merge(1, 2)", x.merge(1, 2), 1);
        due("purpose()", x.purpose(), LIMIT);
    }

    private static void donor() {
        GiftPurposes x = new GiftPurposes();
        for (int number = 0; number < 8; number++) {
            due("donor()", x.donor(), number);
            due("donors", x.count(1), number + 1);
            due("declares", x.donorOf(number, 0), 0);
            due("consent", x.donorOf(number, 10), MISSING);
        }
        due("donor()", x.donor(), LIMIT);
        due("donors", x.count(1), 8);
        states(x, 4);
    }

    private static void declare() {
        GiftPurposes x = with(1, 2);
        due("declare(1, 1)", x.declare(1, 1), 0);
        due("declares", x.donorOf(1, 0), 1);
        due("declares", x.donorOf(0, 0), 0);
        due("declare(1, 1)", x.declare(1, 1), 1);
        states(x, 4);
        x.undo();
        x.undo();
        due("declares", x.donorOf(1, 0), 0);
        states(x, 2);
        due("declare(1, 0)", x.declare(1, 0), 0);
        due("declare(1, 1)", x.declare(1, 1), 0);
        due("declare(1, 0)", x.declare(1, 0), 1);
        due("declares", x.donorOf(1, 0), 0);
        due("declare(2, 1)", x.declare(2, 1), INVALID);
        due("declare(-1, 1)", x.declare(-1, 1), INVALID);
        due("declare(0, 2)", x.declare(0, 2), INVALID);
        due("declare(0, -1)", x.declare(0, -1), INVALID);
        due("declares", x.donorOf(0, 0), 0);
        for (int far : FAR) {
            due("declare(far, 1)", x.declare(far, 1), INVALID);
            due("declare(0, far)", x.declare(0, far), INVALID);
        }
    }

    private static void give() {
        GiftPurposes x = with(3, 2);
        due("give(1, 2, 9999)", x.give(1, 2, 9999), 0);
        due("give(0, 0, 1)", x.give(0, 0, 1), 1);
        funds(x, 1, 0, 9999);
        x.pass(5);
        due("give(0, 2, 3)", x.give(0, 2, 3), 2);
        int[] told = {0, 2, 3, 5, 0, 0, MISSING, 0};
        for (int what = 0; what < told.length; what++) {
            due("giftOf(2, " + what + ")", x.giftOf(2, what), told[what]);
        }
        due("given for 2", x.purposeOf(2, 1), 10002);
        due("give(0, 0, 0)", x.give(0, 0, 0), INVALID);
        due("give(0, 0, 10000)", x.give(0, 0, 10000), INVALID);
        due("give(2, 0, 1)", x.give(2, 0, 1), INVALID);
        due("give(-1, 0, 1)", x.give(-1, 0, 1), INVALID);
        due("give(0, 3, 1)", x.give(0, 3, 1), INVALID);
        due("give(0, -1, 1)", x.give(0, -1, 1), INVALID);
        for (int far : FAR) {
            due("give(far, 0, 1)", x.give(far, 0, 1), INVALID);
            due("give(0, far, 1)", x.give(0, far, 1), INVALID);
            due("give(0, 0, far)", x.give(0, 0, far), INVALID);
        }
        x.give(0, 1, 4);
        x.agree(0, 1, 2);
        x.merge(1, 2);
        due("give(0, 1, 1)", x.give(0, 1, 1), IMPOSSIBLE);
        due("give(0, 1, 0)", x.give(0, 1, 0), INVALID);
        for (int number = 4; number < 24; number++) {
            due("give(0, 0, 1)", x.give(0, 0, 1), number);
        }
        states(x, 4);
        due("give(0, 0, 1)", x.give(0, 0, 1), LIMIT);
        due("give(0, 1, 1)", x.give(0, 1, 1), IMPOSSIBLE);
        due("give(0, 1, 0)", x.give(0, 1, 0), INVALID);
        due("gifts", x.count(2), 24);
        funds(x, 21, 0, 10006);
    }

    private static void pledge() {
        GiftPurposes x = with(3, 2);
        due("pledge(1, 2, 999, 60)", x.pledge(1, 2, 999, 60), 0);
        int[] told = {1, 2, 999, 60, 0, 0, 0, 0};
        for (int what = 0; what < told.length; what++) {
            due("pledgeOf(0, " + what + ")", x.pledgeOf(0, what), told[what]);
        }
        due("pledge(0, 1, 1, 1)", x.pledge(0, 1, 1, 1), 1);
        due("gifts", x.count(2), 0);
        funds(x, 0, 0, 0);
        due("pass(1)", x.pass(1), 2);
        funds(x, 0, 1, 999);
        due("pledge(0, 0, 0, 1)", x.pledge(0, 0, 0, 1), INVALID);
        due("pledge(0, 0, 1000, 1)", x.pledge(0, 0, 1000, 1), INVALID);
        due("pledge(0, 0, 1, 0)", x.pledge(0, 0, 1, 0), INVALID);
        due("pledge(0, 0, 1, 61)", x.pledge(0, 0, 1, 61), INVALID);
        due("pledge(2, 0, 1, 1)", x.pledge(2, 0, 1, 1), INVALID);
        due("pledge(-1, 0, 1, 1)", x.pledge(-1, 0, 1, 1), INVALID);
        due("pledge(0, 3, 1, 1)", x.pledge(0, 3, 1, 1), INVALID);
        due("pledge(0, -1, 1, 1)", x.pledge(0, -1, 1, 1), INVALID);
        for (int far : FAR) {
            due("pledge(far, 0, 1, 1)", x.pledge(far, 0, 1, 1), INVALID);
            due("pledge(0, far, 1, 1)", x.pledge(0, far, 1, 1), INVALID);
            due("pledge(0, 0, far, 1)", x.pledge(0, 0, far, 1), INVALID);
            due("pledge(0, 0, 1, far)", x.pledge(0, 0, 1, far), INVALID);
        }
        x.agree(0, 1, 2);
        x.merge(1, 2);
        due("pledge(0, 1, 1, 1)", x.pledge(0, 1, 1, 1), IMPOSSIBLE);
        due("pledge(0, 1, 0, 1)", x.pledge(0, 1, 0, 1), INVALID);
        for (int number = 2; number < 6; number++) {
            due("pledge(0, 0, 5, 2)", x.pledge(0, 0, 5, 2), number);
        }
        states(x, 4);
        due("pledge(0, 0, 5, 2)", x.pledge(0, 0, 5, 2), LIMIT);
        due("pledge(0, 1, 5, 2)", x.pledge(0, 1, 5, 2), IMPOSSIBLE);
        due("pledge(0, 0, 5, 61)", x.pledge(0, 0, 5, 61), INVALID);
        due("pledges", x.count(3), 6);
    }

    private static void miss() {
        GiftPurposes x = with(1, 1);
        x.pledge(0, 0, 7, 4);
        x.pledge(0, 0, 5, 3);
        due("miss(0)", x.miss(0), 0);
        due("will miss", x.pledgeOf(0, 7), 1);
        due("will miss", x.pledgeOf(1, 7), 0);
        due("missed", x.pledgeOf(0, 4), 0);
        due("miss(0)", x.miss(0), IMPOSSIBLE);
        states(x, 4);
        due("pass(1)", x.pass(1), 1);
        due("missed", x.pledgeOf(0, 4), 1);
        due("left", x.pledgeOf(0, 3), 3);
        due("made", x.pledgeOf(0, 6), 0);
        due("will miss", x.pledgeOf(0, 7), 0);
        due("miss(0)", x.miss(0), 1);
        due("pass(1)", x.pass(1), 1);
        due("miss(0)", x.miss(0), 2);
        due("pass(1)", x.pass(1), 1);
        // the third missed month lapses, and counts
        due("standing", x.pledgeOf(0, 5), 3);
        due("missed", x.pledgeOf(0, 4), 3);
        due("left", x.pledgeOf(0, 3), 1);
        due("will miss", x.pledgeOf(0, 7), 0);
        due("standing", x.pledgeOf(1, 5), 1);
        due("miss(0)", x.miss(0), IMPOSSIBLE);
        due("miss(1)", x.miss(1), IMPOSSIBLE);
        due("miss(2)", x.miss(2), INVALID);
        due("miss(-1)", x.miss(-1), INVALID);
        for (int far : FAR) {
            due("miss(far)", x.miss(far), INVALID);
        }
        lastMonthMissed();
    }

    private static void lastMonthMissed() {
        GiftPurposes x = with(1, 1);
        x.pledge(0, 0, 7, 3);
        x.pledge(0, 0, 7, 1);
        for (int month = 0; month < 3; month++) {
            x.miss(0);
            x.miss(1);
            due("pass(1)", x.pass(1), 0);
        }
        due("third miss in the last month", x.pledgeOf(0, 5), 3);
        due("left", x.pledgeOf(0, 3), 0);
        due("first miss in the last month", x.pledgeOf(1, 5), 1);
        due("missed", x.pledgeOf(1, 4), 1);
        funds(x, 0);
    }

    private static void stop() {
        GiftPurposes x = with(1, 1);
        x.pledge(0, 0, 7, 5);
        x.pledge(0, 0, 7, 2);
        x.pledge(0, 0, 7, 9);
        x.pass(2);
        x.miss(0);
        due("stop(0)", x.stop(0), 3);
        due("standing", x.pledgeOf(0, 5), 2);
        due("left", x.pledgeOf(0, 3), 3);
        due("will miss", x.pledgeOf(0, 7), 0);
        states(x, 4);
        due("stop(0)", x.stop(0), IMPOSSIBLE);
        due("stop(1), done", x.stop(1), IMPOSSIBLE);
        due("miss(0)", x.miss(0), IMPOSSIBLE);
        due("pass(3)", x.pass(3), 3);
        due("left", x.pledgeOf(0, 3), 3);
        due("missed", x.pledgeOf(0, 4), 0);
        due("stop(2)", x.stop(2), 4);
        due("stop(3)", x.stop(3), INVALID);
        due("stop(-1)", x.stop(-1), INVALID);
        for (int far : FAR) {
            due("stop(far)", x.stop(far), INVALID);
        }
    }

    private static void claim() {
        GiftPurposes x = with(2, 2);
        x.declare(0, 1);
        x.give(0, 1, 103);
        x.give(1, 1, 100);
        x.give(0, 0, 3);
        due("claim()", x.claim(), 25);
        int[] claimed = {1, 0, 1};
        for (int gift = 0; gift < claimed.length; gift++) {
            due("claimed " + gift, x.giftOf(gift, 4), claimed[gift]);
        }
        funds(x, 3, 228);
        due("taxes of 1", x.purposeOf(1, 2), 25);
        due("claimed so far", x.count(7), 25);
        due("claim()", x.claim(), IMPOSSIBLE);
        states(x, 4);
        x.declare(1, 1);
        due("claim()", x.claim(), 25);
        // a gift whose tax is 0 is claimed, too
        x.give(0, 0, 2);
        due("claim()", x.claim(), 0);
        due("claim()", x.claim(), IMPOSSIBLE);
        // a refunded gift is not claimed
        x.give(0, 0, 40);
        x.refund(4);
        due("claim()", x.claim(), IMPOSSIBLE);
        x.give(0, 0, 40);
        x.declare(0, 0);
        due("claim()", x.claim(), IMPOSSIBLE);
        oldGifts();
        boundOfYear();
        taxesGoHome();
    }

    private static void oldGifts() {
        GiftPurposes x = with(1, 1);
        x.declare(0, 1);
        x.give(0, 0, 100);
        x.pass(1);
        x.give(0, 0, 200);
        x.pass(47);
        due("claim() 48 and 47 months later", x.claim(), 50);
        due("claimed", x.giftOf(0, 4), 0);
        due("claimed", x.giftOf(1, 4), 1);
    }

    private static void boundOfYear() {
        GiftPurposes x = with(1, 2);
        x.declare(0, 1);
        x.declare(1, 1);
        x.set(1, 100);
        x.give(0, 0, 60);
        x.give(1, 0, 101);
        x.give(0, 0, 48);
        x.give(0, 0, 40);
        x.give(1, 0, 100);
        x.pass(11);
        x.give(0, 0, 4);
        x.pass(1);
        x.give(0, 0, 100);
        due("claim()", x.claim(), 15 + 10 + 25 + 25);
        int[] claimed = {1, 0, 0, 1, 1, 0, 1};
        for (int gift = 0; gift < claimed.length; gift++) {
            due("claimed " + gift, x.giftOf(gift, 4), claimed[gift]);
        }
        // what was refunded makes room
        x.refund(0);
        due("claim()", x.claim(), 12 + 1);
        due("claimed", x.giftOf(2, 4), 1);
        due("claimed", x.giftOf(5, 4), 1);
        x.set(1, 0);
        x.give(1, 0, 1);
        due("claim()", x.claim(), IMPOSSIBLE);
        // in a later year, in other months of it
        x.set(1, 100);
        x.pass(13);
        x.give(0, 0, 60);
        due("claim()", x.claim(), 15);
        x.pass(10);
        x.give(0, 0, 41);
        due("claim() in the last month of the year", x.claim(), IMPOSSIBLE);
        x.pass(1);
        x.give(0, 0, 41);
        due("claim() in the next year", x.claim(), 10);
        due("claimed", x.giftOf(9, 4), 0);
        due("claimed", x.giftOf(10, 4), 1);
    }

    private static void taxesGoHome() {
        GiftPurposes x = with(4, 1);
        x.declare(0, 1);
        x.give(0, 1, 40);
        x.give(0, 2, 80);
        x.agree(0, 1, 2);
        x.merge(1, 2);
        x.agree(0, 2, 3);
        x.merge(2, 3);
        due("claim()", x.claim(), 30);
        funds(x, 0, 0, 0, 150);
        due("taxes of 1", x.purposeOf(1, 2), 0);
        due("taxes of 2", x.purposeOf(2, 2), 0);
        due("taxes of 3", x.purposeOf(3, 2), 30);
    }

    private static void spend() {
        GiftPurposes x = with(3, 1);
        x.give(0, 0, 50);
        x.give(0, 1, 100);
        due("spend(1, 40)", x.spend(1, 40), 0);
        funds(x, 50, 60, 0);
        due("spend(1, 60)", x.spend(1, 60), 0);
        funds(x, 50, 0, 0);
        due("spend(1, 51)", x.spend(1, 51), IMPOSSIBLE);
        states(x, 4);
        funds(x, 50, 0, 0);
        x.give(0, 1, 10);
        due("spend(1, 61)", x.spend(1, 61), IMPOSSIBLE);
        due("spend(1, 25)", x.spend(1, 25), 15);
        funds(x, 35, 0, 0);
        due("spent on 1", x.purposeOf(1, 3), 125);
        due("help for 1", x.purposeOf(1, 4), 15);
        due("help of 0", x.purposeOf(0, 11), 15);
        due("spent on 0", x.purposeOf(0, 3), 0);
        due("spend(0, 36)", x.spend(0, 36), IMPOSSIBLE);
        due("spend(0, 5)", x.spend(0, 5), 0);
        due("spend(2, 30)", x.spend(2, 30), 30);
        funds(x, 0, 0, 0);
        due("spent on 0", x.purposeOf(0, 3), 5);
        due("help for 0", x.purposeOf(0, 4), 0);
        due("help of 0", x.purposeOf(0, 11), 45);
        due("spent", x.count(6), 160);
        x.give(0, 0, 9999);
        x.give(0, 0, 9999);
        due("spend(0, 0)", x.spend(0, 0), INVALID);
        due("spend(0, 10000)", x.spend(0, 10000), INVALID);
        due("spend(3, 1)", x.spend(3, 1), INVALID);
        due("spend(-1, 1)", x.spend(-1, 1), INVALID);
        for (int far : FAR) {
            due("spend(far, 1)", x.spend(far, 1), INVALID);
            due("spend(0, far)", x.spend(0, far), INVALID);
        }
        due("spend(2, 9999)", x.spend(2, 9999), 9999);
        x.agree(0, 1, 2);
        x.merge(1, 2);
        due("spend(1, 1), closed", x.spend(1, 1), IMPOSSIBLE);
        due("spend(1, 0), closed", x.spend(1, 0), INVALID);
    }

    private static void agree() {
        GiftPurposes x = with(4, 2);
        due("agree(0, 1, 2) without gifts", x.agree(0, 1, 2), 0);
        x.give(0, 1, 30);
        x.give(1, 1, 50);
        x.give(0, 1, 4);
        x.give(0, 2, 8);
        due("agree(0, 1, 2)", x.agree(0, 1, 2), 34);
        due("consent", x.donorOf(0, 11), 2);
        x.refund(2);
        due("agree(0, 1, 0) in place of it", x.agree(0, 1, 0), 30);
        due("consent", x.donorOf(0, 11), 0);
        due("agree(0, 2, 1)", x.agree(0, 2, 1), 8);
        due("consent", x.donorOf(0, 12), 1);
        due("consent", x.donorOf(0, 11), 0);
        due("consent of the other donor", x.donorOf(1, 11), MISSING);
        states(x, 4);
        due("agree(0, 0, 1)", x.agree(0, 0, 1), IMPOSSIBLE);
        due("agree(0, 0, 0)", x.agree(0, 0, 0), INVALID);
        due("agree(0, 1, 1)", x.agree(0, 1, 1), INVALID);
        due("agree(2, 1, 2)", x.agree(2, 1, 2), INVALID);
        due("agree(-1, 1, 2)", x.agree(-1, 1, 2), INVALID);
        due("agree(0, 4, 2)", x.agree(0, 4, 2), INVALID);
        due("agree(0, -1, 2)", x.agree(0, -1, 2), INVALID);
        due("agree(0, 1, 4)", x.agree(0, 1, 4), INVALID);
        due("agree(0, 1, -1)", x.agree(0, 1, -1), INVALID);
        for (int far : FAR) {
            due("agree(far, 1, 2)", x.agree(far, 1, 2), INVALID);
            due("agree(0, far, 2)", x.agree(0, far, 2), INVALID);
            due("agree(0, 1, far)", x.agree(0, 1, far), INVALID);
        }
        x.merge(2, 1);
        due("agree(0, 2, 3), from closed", x.agree(0, 2, 3), IMPOSSIBLE);
        due("agree(0, 3, 2), into closed", x.agree(0, 3, 2), IMPOSSIBLE);
        // gifts for what was merged into it weigh nothing: 30 alone
        due("agree(0, 1, 3)", x.agree(0, 1, 3), 30);
    }

    private static void merge() {
        GiftPurposes x = with(4, 3);
        due("merge(1, 2) without weight", x.merge(1, 2), IMPOSSIBLE);
        x.give(0, 1, 60);
        x.give(1, 1, 40);
        x.give(2, 2, 7);
        due("merge(1, 2) without consent", x.merge(1, 2), IMPOSSIBLE);
        x.agree(1, 1, 2);
        due("merge(1, 2) by 40 of 100", x.merge(1, 2), IMPOSSIBLE);
        x.agree(0, 1, 3);
        due("merge(1, 2), other consent", x.merge(1, 2), IMPOSSIBLE);
        x.set(0, 61);
        due("merge(1, 3) by 60 of 100", x.merge(1, 3), IMPOSSIBLE);
        x.set(0, 60);
        x.pledge(0, 1, 5, 9);
        x.pledge(1, 1, 6, 8);
        x.pledge(2, 2, 1, 8);
        x.pledge(0, 1, 1, 9);
        x.stop(3);
        due("merge(1, 3)", x.merge(1, 3), 100);
        funds(x, 0, 0, 7, 100);
        int[] from = {0, 100, 0, 0, 0, 0, 0, 0, 100, 3, 3, 0};
        int[] into = {100, 0, 0, 0, 0, 0, 0, 100, 0, MISSING, 3, 0};
        for (int what = 0; what < from.length; what++) {
            due("purposeOf(1, " + what + ")", x.purposeOf(1, what), from[what]);
            due("purposeOf(3, " + what + ")", x.purposeOf(3, what), into[what]);
        }
        due("pledge handed on", x.pledgeOf(0, 1), 3);
        due("pledge handed on", x.pledgeOf(0, 5), 0);
        due("pledge stopped", x.pledgeOf(1, 1), 1);
        due("pledge stopped", x.pledgeOf(1, 5), 2);
        due("pledge stopped", x.pledgeOf(1, 3), 8);
        due("pledge of another purpose", x.pledgeOf(2, 5), 0);
        due("pledge that did not run", x.pledgeOf(3, 1), 1);
        due("consents gone", x.donorOf(0, 11), MISSING);
        due("consents gone", x.donorOf(1, 11), MISSING);
        states(x, 4);
        due("merge(1, 3), closed", x.merge(1, 3), IMPOSSIBLE);
        due("merge(0, 1)", x.merge(0, 1), IMPOSSIBLE);
        due("merge(1, 1)", x.merge(1, 1), INVALID);
        due("merge(4, 1)", x.merge(4, 1), INVALID);
        due("merge(-1, 1)", x.merge(-1, 1), INVALID);
        due("merge(1, 4)", x.merge(1, 4), INVALID);
        due("merge(1, -1)", x.merge(1, -1), INVALID);
        for (int far : FAR) {
            due("merge(far, 1)", x.merge(far, 1), INVALID);
            due("merge(1, far)", x.merge(1, far), INVALID);
        }
        closedAndGeneral();
        pledgesWithAPurposeMerged();
        almostEnough();
    }

    private static void almostEnough() {
        GiftPurposes x = with(3, 2);
        x.give(0, 1, 599);
        x.give(1, 1, 401);
        x.agree(0, 1, 2);
        due("merge(1, 2) by 599 of 1000", x.merge(1, 2), IMPOSSIBLE);
        x.give(0, 1, 2);
        due("merge(1, 2) by 601 of 1002", x.merge(1, 2), IMPOSSIBLE);
        x.give(0, 1, 1);
        due("merge(1, 2) by 602 of 1003", x.merge(1, 2), 1003);
    }

    private static void closedAndGeneral() {
        GiftPurposes x = with(4, 2);
        x.give(0, 1, 60);
        x.give(0, 2, 60);
        x.give(0, 0, 60);
        due("merge(0, 1), from the general one", x.merge(0, 1), IMPOSSIBLE);
        x.agree(0, 1, 2);
        x.agree(0, 2, 0);
        x.agree(1, 3, 2);
        due("merge(2, 0), into the general one", x.merge(2, 0), 60);
        funds(x, 120, 60, 0, 0);
        // the consent for the merging of 1 stays, but 2 is closed now
        due("consent", x.donorOf(0, 11), 2);
        due("consent", x.donorOf(1, 13), 2);
        due("merge(1, 2), into a closed one", x.merge(1, 2), IMPOSSIBLE);
        due("home", x.purposeOf(1, 10), 1);
        due("home", x.purposeOf(2, 10), 0);
        // a weight of 0 that consents does not suffice
        due("merge(3, 0)", x.merge(3, 0), IMPOSSIBLE);
        x.agree(0, 1, 0);
        x.refund(0);
        due("merge(1, 0), all refunded", x.merge(1, 0), IMPOSSIBLE);
        x.give(1, 1, 1);
        due("merge(1, 0), the other donor alone weighs", x.merge(1, 0), IMPOSSIBLE);
        x.agree(1, 1, 0);
        x.spend(1, 1);
        due("merge(1, 0) with an empty fund", x.merge(1, 0), 0);
        due("closed", x.count(10), 2);
    }

    private static void pledgesWithAPurposeMerged() {
        GiftPurposes x = with(3, 2);
        x.give(0, 1, 10);
        x.agree(0, 1, 2);
        // a consent without weight hands on a pledge, too
        x.agree(1, 1, 2);
        x.pledge(1, 1, 5, 3);
        x.miss(0);
        x.merge(1, 2);
        due("will miss still", x.pledgeOf(0, 7), 1);
        due("pass(3)", x.pass(3), 2);
        funds(x, 0, 0, 20);
        due("given for 1", x.purposeOf(1, 1), 10);
        due("given for 2", x.purposeOf(2, 1), 10);
        due("purpose of the gift", x.giftOf(0, 1), 1);
        due("purpose of the gift", x.giftOf(1, 1), 2);
    }

    private static void refund() {
        GiftPurposes x = with(3, 1);
        x.declare(0, 1);
        x.give(0, 1, 100);
        x.claim();
        x.give(0, 1, 30);
        due("refund(1), not claimed", x.refund(1), 0);
        due("refund(0), claimed", x.refund(0), 25);
        funds(x, 0, 0, 0);
        due("refunded", x.giftOf(0, 5), 1);
        due("claimed still", x.giftOf(0, 4), 1);
        due("refunded out of 1", x.purposeOf(1, 5), 130);
        due("repaid out of 1", x.purposeOf(1, 6), 25);
        due("refunded", x.count(9), 130);
        due("repaid", x.count(8), 25);
        states(x, 4);
        due("refund(0) again", x.refund(0), IMPOSSIBLE);
        due("refund(2)", x.refund(2), INVALID);
        due("refund(-1)", x.refund(-1), INVALID);
        for (int far : FAR) {
            due("refund(far)", x.refund(far), INVALID);
        }
        // the fund must have the amount and the tax
        x.give(0, 1, 80);
        x.claim();
        x.spend(1, 1);
        due("refund(2) with 99 of 100", x.refund(2), IMPOSSIBLE);
        due("not refunded", x.giftOf(2, 5), 0);
        x.give(0, 1, 1);
        due("refund(2) with 100 of 100", x.refund(2), 20);
        // another home
        x.give(0, 1, 50);
        x.agree(0, 1, 2);
        x.merge(1, 2);
        due("refund(4) out of its home", x.refund(4), 0);
        funds(x, 0, 0, 0);
        due("refunded out of 2", x.purposeOf(2, 5), 50);
        due("refunded out of 1", x.purposeOf(1, 5), 210);
    }

    private static void pass() {
        GiftPurposes x = with(1, 2);
        due("pass(0)", x.pass(0), INVALID);
        due("pass(61)", x.pass(61), INVALID);
        for (int far : FAR) {
            due("pass(far)", x.pass(far), INVALID);
        }
        due("month", x.count(4), 0);
        due("pass(60)", x.pass(60), 0);
        due("month", x.count(4), 60);
        x.pledge(0, 0, 10, 2);
        x.pledge(1, 0, 20, 3);
        due("pass(2)", x.pass(2), 4);
        int[] donors = {0, 1, 0, 1};
        int[] months = {61, 61, 62, 62};
        for (int gift = 0; gift < donors.length; gift++) {
            due("donor of " + gift, x.giftOf(gift, 0), donors[gift]);
            due("month of " + gift, x.giftOf(gift, 3), months[gift]);
            due("pledge of " + gift, x.giftOf(gift, 6), donors[gift]);
        }
        due("standing", x.pledgeOf(0, 5), 1);
        due("standing", x.pledgeOf(1, 5), 0);
        due("pass(60)", x.pass(60), 1);
        funds(x, 80);
        for (int step = 0; step < 14; step++) {
            x.pass(60);
        }
        due("month", x.count(4), 962);
        due("pass(38)", x.pass(38), LIMIT);
        due("pass(0)", x.pass(0), INVALID);
        states(x, 4);
        due("pass(37)", x.pass(37), 0);
        due("month", x.count(4), 999);
        due("pass(1)", x.pass(1), LIMIT);
        noRoomForGifts();
    }

    private static void noRoomForGifts() {
        GiftPurposes x = with(1, 1);
        for (int gift = 0; gift < 22; gift++) {
            x.give(0, 0, 1);
        }
        x.pledge(0, 0, 10, 9);
        x.pledge(0, 0, 20, 2);
        x.pledge(0, 0, 30, 9);
        x.miss(2);
        due("pass(1)", x.pass(1), 2);
        due("full, the month is missed", x.pledgeOf(2, 5), 0);
        x.miss(2);
        due("pass(1)", x.pass(1), 0);
        int[] standings = {3, 3, 0};
        int[] left = {7, 0, 7};
        for (int pledge = 0; pledge < standings.length; pledge++) {
            due("standing of " + pledge, x.pledgeOf(pledge, 5), standings[pledge]);
            due("left of " + pledge, x.pledgeOf(pledge, 3), left[pledge]);
        }
        due("missed by no room", x.pledgeOf(0, 4), 0);
        due("made", x.pledgeOf(0, 6), 1);
        due("pass(1)", x.pass(1), 0);
        due("standing", x.pledgeOf(2, 5), 3);
        due("left", x.pledgeOf(2, 3), 6);
        due("gifts", x.count(2), 24);
    }

    private static void set() {
        GiftPurposes x = new GiftPurposes();
        due("set(0, 1)", x.set(0, 1), 60);
        due("set(0, 100)", x.set(0, 100), 1);
        due("set(1, 0)", x.set(1, 0), 5000);
        due("set(1, 99999)", x.set(1, 99999), 0);
        due("count(13)", x.count(13), 100);
        due("count(14)", x.count(14), 99999);
        due("set(0, 100)", x.set(0, 100), 100);
        states(x, 4);
        x.undo();
        due("set(0, 0)", x.set(0, 0), INVALID);
        due("set(0, 101)", x.set(0, 101), INVALID);
        due("set(1, -1)", x.set(1, -1), INVALID);
        due("set(1, 100000)", x.set(1, 100000), INVALID);
        due("set(2, 50)", x.set(2, 50), INVALID);
        due("set(-1, 50)", x.set(-1, 50), INVALID);
        for (int far : FAR) {
            due("set(far, 50)", x.set(far, 50), INVALID);
            due("set(0, far)", x.set(0, far), INVALID);
            due("set(1, far)", x.set(1, far), INVALID);
        }
        states(x, 3);
        due("count(13)", x.count(13), 100);
    }

    private static void purposeOf() {
        GiftPurposes x = with(3, 2);
        x.declare(0, 1);
        x.give(0, 0, 400);
        x.give(0, 1, 200);
        x.give(1, 1, 100);
        x.give(0, 2, 80);
        x.claim();
        x.spend(1, 380);
        x.spend(0, 10);
        x.give(1, 1, 60);
        x.refund(4);
        x.refund(3);
        x.give(0, 1, 300);
        x.agree(0, 1, 2);
        x.merge(1, 2);
        int[][] want = {
            {460, 400, 100, 10, 0, 0, 0, 0, 0, MISSING, 0, 30},
            {0, 660, 50, 380, 30, 60, 0, 0, 300, 2, 2, 0},
            {300, 80, 20, 0, 0, 80, 20, 300, 0, MISSING, 2, 0}};
        for (int purpose = 0; purpose < want.length; purpose++) {
            for (int what = 0; what < 12; what++) {
                due("purposeOf(" + purpose + ", " + what + ")", x.purposeOf(purpose, what), want[purpose][what]);
            }
        }
        due("purposeOf(3, 0)", x.purposeOf(3, 0), INVALID);
        due("purposeOf(-1, 0)", x.purposeOf(-1, 0), INVALID);
        due("purposeOf(0, 12)", x.purposeOf(0, 12), INVALID);
        due("purposeOf(0, -1)", x.purposeOf(0, -1), INVALID);
        due("purposeOf(3, 9)", x.purposeOf(3, 9), INVALID);
        for (int far : FAR) {
            due("purposeOf(far, 0)", x.purposeOf(far, 0), INVALID);
            due("purposeOf(0, far)", x.purposeOf(0, far), INVALID);
        }
        homes();
    }

    private static void homes() {
        GiftPurposes x = with(5, 1);
        for (int purpose = 1; purpose < 4; purpose++) {
            x.give(0, purpose, 10);
            x.agree(0, purpose, purpose + 1);
            x.merge(purpose, purpose + 1);
        }
        for (int purpose = 1; purpose < 4; purpose++) {
            due("merged into", x.purposeOf(purpose, 9), purpose + 1);
            due("home", x.purposeOf(purpose, 10), 4);
        }
        due("came", x.purposeOf(3, 7), 20);
        due("went", x.purposeOf(3, 8), 30);
        due("home", x.purposeOf(4, 10), 4);
        funds(x, 0, 0, 0, 0, 30);
    }

    private static void donorOf() {
        GiftPurposes x = with(3, 2);
        x.declare(1, 1);
        x.give(1, 1, 100);
        x.give(1, 2, 40);
        x.give(0, 1, 7);
        x.claim();
        x.give(1, 0, 9);
        x.pledge(1, 0, 1, 9);
        x.pledge(0, 0, 1, 9);
        x.pledge(1, 0, 1, 9);
        x.pledge(1, 0, 1, 9);
        x.stop(2);
        x.refund(1);
        x.refund(3);
        x.agree(1, 1, 2);
        x.agree(1, 2, 0);
        int[] want = {1, 149, 49, 100, 0b1001};
        for (int what = 0; what < want.length; what++) {
            due("donorOf(1, " + what + ")", x.donorOf(1, what), want[what]);
        }
        int[] other = {0, 7, 0, 0, 0b10};
        for (int what = 0; what < other.length; what++) {
            due("donorOf(0, " + what + ")", x.donorOf(0, what), other[what]);
        }
        due("donorOf(1, 10)", x.donorOf(1, 10), MISSING);
        due("donorOf(1, 11)", x.donorOf(1, 11), 2);
        due("donorOf(1, 12)", x.donorOf(1, 12), 0);
        due("donorOf(1, 13)", x.donorOf(1, 13), INVALID);
        due("donorOf(0, 11)", x.donorOf(0, 11), MISSING);
        for (int what = 5; what < 10; what++) {
            due("donorOf(1, " + what + ")", x.donorOf(1, what), INVALID);
        }
        due("donorOf(1, -1)", x.donorOf(1, -1), INVALID);
        due("donorOf(2, 0)", x.donorOf(2, 0), INVALID);
        due("donorOf(-1, 0)", x.donorOf(-1, 0), INVALID);
        due("donorOf(2, 10)", x.donorOf(2, 10), INVALID);
        for (int far : FAR) {
            due("donorOf(far, 0)", x.donorOf(far, 0), INVALID);
            due("donorOf(0, far)", x.donorOf(0, far), INVALID);
        }
    }

    private static void giftOf() {
        GiftPurposes x = with(3, 2);
        x.declare(1, 1);
        x.pass(2);
        x.give(1, 2, 103);
        x.pledge(0, 1, 3, 1);
        x.pass(1);
        x.claim();
        x.give(1, 2, 50);
        x.refund(0);
        int[][] want = {{1, 2, 103, 2, 1, 1, MISSING, 25}, {0, 1, 3, 3, 0, 0, 0, 0}};
        for (int gift = 0; gift < want.length; gift++) {
            for (int what = 0; what < 8; what++) {
                due("giftOf(" + gift + ", " + what + ")", x.giftOf(gift, what), want[gift][what]);
            }
        }
        due("giftOf(0, 8)", x.giftOf(0, 8), INVALID);
        due("giftOf(0, -1)", x.giftOf(0, -1), INVALID);
        due("giftOf(3, 0)", x.giftOf(3, 0), INVALID);
        due("giftOf(3, 6)", x.giftOf(3, 6), INVALID);
        due("giftOf(-1, 0)", x.giftOf(-1, 0), INVALID);
        for (int far : FAR) {
            due("giftOf(far, 0)", x.giftOf(far, 0), INVALID);
            due("giftOf(0, far)", x.giftOf(0, far), INVALID);
        }
    }

    private static void pledgeOf() {
        GiftPurposes x = with(3, 2);
        x.pledge(1, 2, 30, 4);
        x.pledge(0, 1, 20, 1);
        x.pledge(0, 0, 1, 60);
        x.pass(1);
        x.miss(0);
        x.pass(1);
        x.miss(0);
        x.stop(2);
        int[][] want = {{1, 2, 30, 2, 1, 0, 1, 1}, {0, 1, 20, 0, 0, 1, 1, 0}, {0, 0, 1, 58, 0, 2, 2, 0}};
        for (int pledge = 0; pledge < want.length; pledge++) {
            for (int what = 0; what < 8; what++) {
                due("pledgeOf(" + pledge + ", " + what + ")", x.pledgeOf(pledge, what), want[pledge][what]);
            }
        }
        due("pledgeOf(0, 8)", x.pledgeOf(0, 8), INVALID);
        due("pledgeOf(0, -1)", x.pledgeOf(0, -1), INVALID);
        due("pledgeOf(3, 0)", x.pledgeOf(3, 0), INVALID);
        due("pledgeOf(-1, 0)", x.pledgeOf(-1, 0), INVALID);
        for (int far : FAR) {
            due("pledgeOf(far, 0)", x.pledgeOf(far, 0), INVALID);
            due("pledgeOf(0, far)", x.pledgeOf(0, far), INVALID);
        }
    }

    private static void count() {
        GiftPurposes x = with(3, 2);
        x.declare(0, 1);
        x.give(0, 0, 400);
        x.give(0, 1, 200);
        x.give(0, 2, 40);
        x.pledge(1, 2, 5, 9);
        x.pass(2);
        x.claim();
        x.spend(0, 30);
        x.spend(2, 62);
        x.refund(1);
        x.give(0, 1, 8);
        x.agree(0, 1, 2);
        x.set(0, 70);
        x.set(1, 70);
        x.merge(1, 2);
        write(x, "claim");
        int[] want = {3, 2, 6, 1, 2, 476, 92, 160, 50, 200, 1, 4, 5, 70, 70};
        for (int what = 0; what < want.length; what++) {
            due("count(" + what + ")", x.count(what), want[what]);
        }
        due("count(15)", x.count(15), INVALID);
        due("count(-1)", x.count(-1), INVALID);
        for (int far : FAR) {
            due("count(far)", x.count(far), INVALID);
        }
        fullHouse();
    }

    /** The last purpose, donor, gift and pledge, when there is no room for more. */
    private static void fullHouse() {
        GiftPurposes x = with(6, 8);
        x.declare(7, 1);
        for (int pledge = 0; pledge < 6; pledge++) {
            x.pledge(7, 5, 4, 9);
        }
        for (int gift = 0; gift < 24; gift++) {
            x.give(7, 5, 8);
        }
        due("miss(5)", x.miss(5), 0);
        due("agree(7, 5, 4)", x.agree(7, 5, 4), 192);
        due("claim()", x.claim(), 48);
        due("refund(23)", x.refund(23), 2);
        int[] purpose = {230, 192, 48, 0, 0, 8, 2, 0, 0, MISSING, 5, 0};
        for (int what = 0; what < purpose.length; what++) {
            due("purposeOf(5, " + what + ")", x.purposeOf(5, what), purpose[what]);
        }
        int[] gift = {7, 5, 8, 0, 1, 1, MISSING, 2};
        int[] pledge = {7, 5, 4, 9, 0, 0, 0, 1};
        for (int what = 0; what < gift.length; what++) {
            due("giftOf(23, " + what + ")", x.giftOf(23, what), gift[what]);
            due("pledgeOf(5, " + what + ")", x.pledgeOf(5, what), pledge[what]);
        }
        due("donorOf(7, 4)", x.donorOf(7, 4), 63);
        due("donorOf(7, 15)", x.donorOf(7, 15), 4);
        due("donorOf(7, 16)", x.donorOf(7, 16), INVALID);
        int[] want = {6, 8, 24, 6, 0, 230, 0, 48, 2, 8, 0, 4, 0, 60, 5000};
        for (int what = 0; what < want.length; what++) {
            due("count(" + what + "), full", x.count(what), want[what]);
        }
    }

    private static void wouldClaim() {
        GiftPurposes x = with(2, 3);
        due("wouldClaim(-1)", x.wouldClaim(-1), 0);
        x.declare(0, 1);
        x.declare(1, 1);
        x.set(1, 120);
        x.give(0, 1, 100);
        x.give(1, 1, 84);
        x.give(2, 1, 40);
        x.give(0, 0, 22);
        x.give(0, 0, 20);
        due("wouldClaim(-1)", x.wouldClaim(-1), 25 + 21 + 5);
        due("wouldClaim(0)", x.wouldClaim(0), 30);
        due("wouldClaim(1)", x.wouldClaim(1), 21);
        due("wouldClaim(2)", x.wouldClaim(2), 0);
        due("nothing was claimed", x.giftOf(0, 4), 0);
        funds(x, 42, 224);
        states(x, 4);
        due("claim()", x.claim(), 51);
        due("wouldClaim(-1)", x.wouldClaim(-1), 0);
        due("wouldClaim(3)", x.wouldClaim(3), INVALID);
        due("wouldClaim(-2)", x.wouldClaim(-2), INVALID);
        for (int far : FAR) {
            due("wouldClaim(far)", x.wouldClaim(far), INVALID);
        }
    }

    private static void consents() {
        GiftPurposes x = with(4, 3);
        due("consents(1, 2)", x.consents(1, 2), MISSING);
        x.agree(0, 1, 2);
        due("consents(1, 2)", x.consents(1, 2), MISSING);
        x.give(0, 1, 1);
        due("consents(1, 2)", x.consents(1, 2), 100);
        x.undo();
        x.give(0, 1, 20);
        due("consents(1, 2)", x.consents(1, 2), 100);
        x.give(1, 1, 10);
        due("consents(1, 2)", x.consents(1, 2), 66);
        due("consents(1, 3)", x.consents(1, 3), 0);
        x.give(2, 2, 10);
        due("consents(2, 1)", x.consents(2, 1), 0);
        x.agree(1, 1, 3);
        due("consents(1, 3)", x.consents(1, 3), 33);
        x.refund(0);
        due("consents(1, 2)", x.consents(1, 2), 0);
        due("consents(1, 3)", x.consents(1, 3), 100);
        x.give(0, 0, 5);
        due("consents(0, 1)", x.consents(0, 1), 0);
        due("consents(1, 1)", x.consents(1, 1), INVALID);
        due("consents(4, 1)", x.consents(4, 1), INVALID);
        due("consents(-1, 1)", x.consents(-1, 1), INVALID);
        due("consents(1, 4)", x.consents(1, 4), INVALID);
        due("consents(1, -1)", x.consents(1, -1), INVALID);
        for (int far : FAR) {
            due("consents(far, 1)", x.consents(far, 1), INVALID);
            due("consents(1, far)", x.consents(1, far), INVALID);
        }
        due("merge(1, 3)", x.merge(1, 3), 10);
        due("consents(1, 3), closed", x.consents(1, 3), 0);
        due("consents(3, 1), no weight of its own", x.consents(3, 1), MISSING);
        x.agree(2, 2, 3);
        due("consents(2, 3)", x.consents(2, 3), 100);
        x.refund(2);
        due("consents(2, 3), all refunded", x.consents(2, 3), MISSING);
    }

    private static void later() {
        GiftPurposes x = with(3, 2);
        x.give(0, 1, 100);
        x.pledge(0, 1, 10, 3);
        x.pledge(1, 2, 1, 60);
        x.pledge(1, 1, 5, 60);
        x.miss(2);
        due("later(1, 1)", x.later(1, 1), 110);
        due("later(1, 2)", x.later(1, 2), 125);
        due("later(1, 4)", x.later(1, 4), 145);
        due("later(0, 60)", x.later(0, 60), 0);
        due("month", x.count(4), 0);
        due("gifts", x.count(2), 1);
        states(x, 4);
        // 23 gifts more: 3 of pledge 0, then by turns until there are 24
        due("later(2, 60)", x.later(2, 60), 11);
        due("later(1, 60)", x.later(1, 60), 100 + 30 + 5 * 9);
        due("later(1, 0)", x.later(1, 0), INVALID);
        due("later(1, 61)", x.later(1, 61), INVALID);
        due("later(3, 1)", x.later(3, 1), INVALID);
        due("later(-1, 1)", x.later(-1, 1), INVALID);
        for (int far : FAR) {
            due("later(far, 1)", x.later(far, 1), INVALID);
            due("later(0, far)", x.later(0, far), INVALID);
        }
        x.agree(0, 1, 2);
        x.merge(1, 2);
        due("later(1, 1), closed", x.later(1, 1), IMPOSSIBLE);
        due("later(1, 61), closed", x.later(1, 61), INVALID);
        due("later(2, 2)", x.later(2, 2), 122);
        for (int step = 0; step < 16; step++) {
            x.pass(60);
        }
        x.pass(39);
        due("month", x.count(4), 999);
        x.purpose();
        due("later(3, 60) beyond the last month", x.later(3, 60), 0);
        beyondTheLastMonth();
    }

    private static void beyondTheLastMonth() {
        GiftPurposes x = with(1, 1);
        for (int step = 0; step < 16; step++) {
            x.pass(60);
        }
        x.pledge(0, 0, 3, 60);
        due("later(0, 60)", x.later(0, 60), 72);
        x.pass(39);
        x.undo();
        due("later(0, 20)", x.later(0, 20), 60);
        x.pass(2);
        x.stop(0);
        x.pass(37);
        x.pledge(0, 0, 5, 60);
        due("later(0, 60)", x.later(0, 60), 6 + 22 * 5);
    }

    private static void undo() {
        GiftPurposes x = new GiftPurposes();
        due("undo()", x.undo(), IMPOSSIBLE);
        x.donor();
        for (int amount = 1; amount < 7; amount++) {
            x.give(0, 0, amount);
            states(x, Math.min(4, amount + 1));
        }
        // a refused call does not cost the oldest state
        due("give(0, 0, 0)", x.give(0, 0, 0), INVALID);
        due("claim()", x.claim(), IMPOSSIBLE);
        int[] fund = {15, 10, 6, 3};
        for (int left = 3; left >= 0; left--) {
            due("undo()", x.undo(), left);
            due("fund", x.purposeOf(0, 0), fund[3 - left]);
            due("gifts", x.count(2), left + 2);
        }
        due("undo()", x.undo(), IMPOSSIBLE);
        due("gifts", x.count(2), 2);
        due("give(0, 0, 9)", x.give(0, 0, 9), 2);
        due("undo()", x.undo(), 0);
        x.give(0, 0, 9);
        x.give(0, 0, 0);
        x.pass(61);
        states(x, 1);
        undoneChanges();
    }

    /** Each kind of change is undone by one step, but the text stays. */
    private static void undoneChanges() {
        for (int change = 0; change < 15; change++) {
            GiftPurposes x = with(3, 2);
            x.declare(0, 1);
            x.give(0, 1, 100);
            x.agree(0, 1, 2);
            x.pledge(0, 1, 10, 9);
            write(x, "give 0 0 4;give 1 0 5;");
            String before = told(x);
            boolean changed = change(x, change) >= 0;
            due("change " + change, changed && !before.equals(told(x)) ? 1 : 0, 1);
            due("undo() of change " + change, x.undo(), 3);
            due("the state of before change " + change, before.equals(told(x)) ? 1 : 0, 1);
            due("length of the text", x.count(12), 22);
        }
    }

    private static int change(GiftPurposes x, int change) {
        switch (change) {
            case 0: return x.purpose();
            case 1: return x.donor();
            case 2: return x.declare(1, 1);
            case 3: return x.give(1, 1, 5);
            case 4: return x.pledge(1, 1, 5, 5);
            case 5: return x.miss(0);
            case 6: return x.stop(0);
            case 7: return x.claim();
            case 8: return x.spend(1, 5);
            case 9: return x.agree(0, 1, 0);
            case 10: return x.merge(1, 2);
            case 11: return x.refund(0);
            case 12: return x.pass(3);
            case 13: return x.set(1, 77);
            default: return x.play();
        }
    }

    /** All that there is, but the history and the text. */
    private static String told(GiftPurposes x) {
        StringBuilder all = new StringBuilder();
        for (int what = 0; what < 15; what++) {
            all.append(what == 11 || what == 12 ? 0 : x.count(what)).append(' ');
        }
        for (int purpose = 0; purpose < x.count(0); purpose++) {
            for (int what = 0; what < 12; what++) {
                all.append(x.purposeOf(purpose, what)).append(' ');
            }
        }
        for (int donor = 0; donor < x.count(1); donor++) {
            for (int what = 0; what < 16; what++) {
                all.append(x.donorOf(donor, what)).append(' ');
            }
        }
        for (int gift = 0; gift < x.count(2); gift++) {
            for (int what = 0; what < 8; what++) {
                all.append(x.giftOf(gift, what)).append(' ');
            }
        }
        for (int pledge = 0; pledge < x.count(3); pledge++) {
            for (int what = 0; what < 8; what++) {
                all.append(x.pledgeOf(pledge, what)).append(' ');
            }
        }
        return all.toString();
    }

    private static void type() {
        GiftPurposes x = new GiftPurposes();
        due("type(32)", x.type(32), 1);
        due("type(126)", x.type(126), 2);
        due("type(31)", x.type(31), INVALID);
        due("type(127)", x.type(127), INVALID);
        for (int far : FAR) {
            due("type(far)", x.type(far), INVALID);
        }
        due("length", x.count(12), 2);
        for (int length = 3; length <= 80; length++) {
            due("type(';')", x.type(';'), length);
        }
        due("type(';')", x.type(';'), LIMIT);
        due("type(31)", x.type(31), INVALID);
        due("length", x.count(12), 80);
        states(x, 0);
    }

    private static void clearText() {
        GiftPurposes x = with(1, 1);
        due("clearText()", x.clearText(), 0);
        write(x, "claim;x");
        due("clearText()", x.clearText(), 7);
        due("length", x.count(12), 0);
        due("fault(0)", x.fault(0), MISSING);
        due("clearText()", x.clearText(), 0);
        write(x, "give 0 0 7;");
        due("what stood there before is gone", x.play(), 1);
        due("states", x.count(11), 2);
    }

    private static void fault() {
        GiftPurposes x = with(3, 2);
        due("fault(0), empty", x.fault(0), MISSING);
        due("fault(1), empty", x.fault(1), MISSING);
        due("fault(2), empty", x.fault(2), MISSING);
        due("fault(3)", x.fault(3), INVALID);
        due("fault(-1)", x.fault(-1), INVALID);
        for (int far : FAR) {
            due("fault(far)", x.fault(far), INVALID);
        }
        faults(x, "give 0 1 9;spend 1 4;agree 0 1 2;merge 1 2;refund 0;", 43, 2, IMPOSSIBLE);
        faults(x, "give 0 1 9;spend 1 9;agree 0 1 2;merge 1 2;", MISSING, MISSING, MISSING);
        faults(x, "pledge 0 0 5 3;miss 0;pass 3;", MISSING, MISSING, MISSING);
        faults(x, "pass 60;", MISSING, MISSING, MISSING);
        faults(x, "give 0 0 8;claim;", 11, 2, IMPOSSIBLE);
        faults(x, "give 0 0 8;claim", 11, 1, MISSING);
        faults(x, "give 0 0 8;give 0 0 10000;", 11, 1, MISSING);
        faults(x, "give 0000 0002 0008;", MISSING, MISSING, MISSING);
        faults(x, "give 00000 2 8;", 0, 1, MISSING);
        faults(x, "give 0 0 0;", 0, 2, INVALID);
        faults(x, "give 2 0 1;", 0, 2, INVALID);
        faults(x, "give 0 0 1;pass 61;x", 11, 2, INVALID);
        due("fault(3)", x.fault(3), INVALID);
        forms();
        due("gifts", x.count(2), 0);
        states(x, 4);
        limitAsCause();
    }

    private static void forms() {
        String[] wrong = {";", " ", "give", "give;", "give 0;", "give 0 0;", "give 0 0 1 1;", "give 0 0 1 ;",
            " give 0 0 1;", "give  0 0 1;", "give 0  0 1;", "give0 0 1;", "Give 0 0 1;", "give 0 0 -1;",
            "give 0 0 1:", "give 0 0 x;", "giv 0 0 1;", "gives 0 0 1;", "pledge 0 0 1;", "pledge 0 0 1 1 1;",
            "miss;", "miss 0 0;", "claim 0;", "claim ;", "spend 0;", "spend 0 1 1;", "agree 0 1;", "agree 0 1 2 3;",
            "merge 1;", "merge 1 2 3;", "refund;", "refund 0 0;", "pass;", "pass 1 1;", "stop 0;", "donor;",
            "purpose;", "set 0 5;", "declare 0 1;", "play;", "pass 1,", "pass +1;", "pass 1",
            "pass ;", "give 0 0 ;", "give  0 1;", "spend 0  ;"};
        for (String form : wrong) {
            faults(with(3, 2), form, 0, 1, MISSING);
            faults(with(3, 2), "pass 1;" + form, 7, 1, MISSING);
        }
        faults(with(3, 2), "pass 1; pass 1;", 7, 1, MISSING);
        faults(with(3, 2), "pass 1;;", 7, 1, MISSING);
    }

    private static void limitAsCause() {
        GiftPurposes x = with(1, 1);
        for (int gift = 0; gift < 23; gift++) {
            x.give(0, 0, 1);
        }
        faults(x, "give 0 0 1;pass 1;give 0 0 1;", 18, 2, LIMIT);
        for (int step = 0; step < 16; step++) {
            x.pass(60);
        }
        faults(x, "pass 39;", MISSING, MISSING, MISSING);
        faults(x, "pass 39;pass 1;", 8, 2, LIMIT);
        faults(x, "pass 0;", 0, 2, INVALID);
        faults(x, "refund 0;refund 0;", 9, 2, IMPOSSIBLE);
        faults(x, "miss 0;", 0, 2, INVALID);
        faults(x, "spend 0 24;", 0, 2, IMPOSSIBLE);
        faults(x, "agree 0 0 0;", 0, 2, INVALID);
        faults(x, "merge 0 1;", 0, 2, INVALID);
        faults(x, "pledge 0 0 1000 1;", 0, 2, INVALID);
    }

    private static void play() {
        GiftPurposes x = new GiftPurposes();
        due("play(), empty", x.play(), 0);
        states(x, 1);
        due("undo()", x.undo(), 0);
        x = with(3, 2);
        x.declare(0, 1);
        write(x, "give 0 1 80;pledge 0 1 7 3;claim;spend 1 9;agree 0 1 2;");
        due("play()", x.play(), 5);
        states(x, 4);
        due("length", x.count(12), 55);
        due("fund", x.purposeOf(1, 0), 91);
        due("amount of the pledge", x.pledgeOf(0, 2), 7);
        due("months of the pledge", x.pledgeOf(0, 3), 3);
        due("consent", x.donorOf(0, 11), 2);
        due("play() again", x.play(), 5);
        due("fund", x.purposeOf(1, 0), 182);
        due("undo()", x.undo(), 3);
        due("fund", x.purposeOf(1, 0), 91);
        write(x, "merge 1 2;refund 0;pass 2;");
        due("play(), the tax is not there", x.play(), IMPOSSIBLE);
        due("fund", x.purposeOf(1, 0), 91);
        due("closed", x.count(10), 0);
        states(x, 3);
        write(x, "give 0 2 9;merge 1 2;refund 0;miss 0;pass 2;");
        due("play()", x.play(), 5);
        funds(x, 0, 0, 7);
        due("pledge handed on", x.pledgeOf(0, 1), 2);
        due("undo()", x.undo(), 3);
        funds(x, 0, 91, 0);
        write(x, "give 0 2 9;give");
        due("play() with a fault of form", x.play(), IMPOSSIBLE);
        due("gifts", x.count(2), 1);
        write(x, "pass 1;pass 1;pass 1;pass 1;pass 1;pass 1;pass 1;pass 1;pass 1;pass 1;pass 0003;");
        due("length", x.count(12), 80);
        due("play() of 80 characters", x.play(), 11);
        due("month", x.count(4), 13);
    }
}
