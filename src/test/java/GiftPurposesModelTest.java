import java.util.ArrayList;
import java.util.HashMap;
import java.util.List;
import java.util.Map;
import java.util.Random;
import java.util.regex.Matcher;
import java.util.regex.Pattern;

/**
 * Random runs of calls, each answer compared with that of a model which is written another way: it keeps entries and
 * adds them up when it is asked, copies whole states, and reads texts by patterns. At the end of each run the accounts
 * of each purpose must agree. The seeds are fixed: each run of the test does the same calls.
 */
public final class GiftPurposesModelTest {
    private static final int RUNS = 20000;
    /** An object is used for so many calls, of which the last ones tell what there is then. */
    private static final int MOST_CALLS = 512;
    private static final int CALLS = 320;

    private static int failed = 0;

    public static void main(String[] arguments) {
        int passed = 0;
        for (int seed = 0; seed < RUNS && failed < 5; seed++) {
            if (new Run(seed).agrees()) {
                passed++;
            } else {
                failed++;
            }
        }
        System.out.println(passed + " passed, " + failed + " failed");
        if (failed > 0) {
            System.exit(1);
        }
    }

    static final class Gift {
        int donor;
        int purpose;
        int amount;
        int month;
        int pledge;
        boolean claimed;
        boolean refunded;

        Gift copy() {
            Gift other = new Gift();
            other.donor = donor;
            other.purpose = purpose;
            other.amount = amount;
            other.month = month;
            other.pledge = pledge;
            other.claimed = claimed;
            other.refunded = refunded;
            return other;
        }
    }

    static final class Pledge {
        int donor;
        int purpose;
        int amount;
        int months;
        int gone;
        int missed;
        int made;
        boolean missNext;
        String state = "running";

        Pledge copy() {
            Pledge other = new Pledge();
            other.donor = donor;
            other.purpose = purpose;
            other.amount = amount;
            other.months = months;
            other.gone = gone;
            other.missed = missed;
            other.made = made;
            other.missNext = missNext;
            other.state = state;
            return other;
        }
    }

    /** A line of the accounts: what came into (or, below 0, out of) a fund, and what for. */
    record Entry(int purpose, String kind, int amount) {
    }

    static final class World {
        int month = 0;
        int[] settings = {60, 5000};
        int purposes = 1;
        List<Boolean> declares = new ArrayList<>();
        List<Gift> gifts = new ArrayList<>();
        List<Pledge> pledges = new ArrayList<>();
        List<Entry> entries = new ArrayList<>();
        Map<Integer, Integer> merged = new HashMap<>();
        Map<String, Integer> agreed = new HashMap<>();

        World copy() {
            World other = new World();
            other.month = month;
            other.settings = settings.clone();
            other.purposes = purposes;
            other.declares.addAll(declares);
            for (Gift gift : gifts) {
                other.gifts.add(gift.copy());
            }
            for (Pledge pledge : pledges) {
                other.pledges.add(pledge.copy());
            }
            other.entries.addAll(entries);
            other.merged.putAll(merged);
            other.agreed.putAll(agreed);
            return other;
        }

        boolean purposeIs(int p) {
            return p >= 0 && p < purposes;
        }

        boolean donorIs(int d) {
            return d >= 0 && d < declares.size();
        }

        boolean closed(int p) {
            return merged.containsKey(p);
        }

        int home(int p) {
            return closed(p) ? home(merged.get(p)) : p;
        }

        void book(int p, String kind, int amount) {
            entries.add(new Entry(p, kind, amount));
        }

        int fund(int p) {
            return entries.stream().filter(e -> e.purpose() == p).mapToInt(Entry::amount).sum();
        }

        int booked(int p, String kind) {
            return Math.abs(entries.stream().filter(e -> (p < 0 || e.purpose() == p) && e.kind().equals(kind))
                    .mapToInt(Entry::amount).sum());
        }

        int addPurpose() {
            return purposes == 6 ? -3 : purposes++;
        }

        int addDonor() {
            if (declares.size() == 8) {
                return -3;
            }
            declares.add(false);
            return declares.size() - 1;
        }

        int declare(int d, int does) {
            if (!donorIs(d) || does != 0 && does != 1) {
                return -1;
            }
            return declares.set(d, does == 1) ? 1 : 0;
        }

        int give(int d, int p, int amount, int pledge) {
            if (!donorIs(d) || !purposeIs(p) || amount < 1 || amount > 9999) {
                return -1;
            }
            if (closed(p)) {
                return -2;
            }
            if (gifts.size() == 24) {
                return -3;
            }
            Gift gift = new Gift();
            gift.donor = d;
            gift.purpose = p;
            gift.amount = amount;
            gift.month = month;
            gift.pledge = pledge;
            gifts.add(gift);
            book(p, "gift", amount);
            return gifts.size() - 1;
        }

        int pledge(int d, int p, int amount, int months) {
            if (!donorIs(d) || !purposeIs(p) || amount < 1 || amount > 999 || months < 1 || months > 60) {
                return -1;
            }
            if (closed(p)) {
                return -2;
            }
            if (pledges.size() == 6) {
                return -3;
            }
            Pledge pledge = new Pledge();
            pledge.donor = d;
            pledge.purpose = p;
            pledge.amount = amount;
            pledge.months = months;
            pledges.add(pledge);
            return pledges.size() - 1;
        }

        int miss(int number) {
            if (number < 0 || number >= pledges.size()) {
                return -1;
            }
            Pledge pledge = pledges.get(number);
            if (!pledge.state.equals("running") || pledge.missNext) {
                return -2;
            }
            pledge.missNext = true;
            return pledge.missed;
        }

        int stop(int number) {
            if (number < 0 || number >= pledges.size()) {
                return -1;
            }
            Pledge pledge = pledges.get(number);
            if (!pledge.state.equals("running")) {
                return -2;
            }
            pledge.state = "stopped";
            return pledge.months - pledge.gone;
        }

        int yearOf(Gift gift) {
            return gift.month / 12;
        }

        int claim(int donor) {
            int taxes = 0;
            int claims = 0;
            for (Gift gift : gifts) {
                int sum = gift.amount;
                for (Gift other : gifts) {
                    if (other.claimed && !other.refunded && other.donor == gift.donor
                            && yearOf(other) == yearOf(gift)) {
                        sum += other.amount;
                    }
                }
                if (gift.claimed || gift.refunded || !declares.get(gift.donor) || gift.month + 47 < month
                        || sum > settings[1] || donor >= 0 && donor != gift.donor) {
                    continue;
                }
                gift.claimed = true;
                book(home(gift.purpose), "tax", gift.amount / 4);
                taxes += gift.amount / 4;
                claims++;
            }
            return claims == 0 ? -2 : taxes;
        }

        int spend(int p, int amount) {
            if (!purposeIs(p) || amount < 1 || amount > 9999) {
                return -1;
            }
            if (closed(p)) {
                return -2;
            }
            if (fund(p) >= amount) {
                book(p, "spent", -amount);
                return 0;
            }
            int rest = amount - fund(p);
            if (p == 0 || fund(0) < rest) {
                return -2;
            }
            book(0, "lent", -rest);
            book(p, "help", rest);
            book(p, "spent", -amount);
            return rest;
        }

        int weight(int d, int p) {
            return gifts.stream().filter(g -> g.donor == d && g.purpose == p && !g.refunded)
                    .mapToInt(g -> g.amount).sum();
        }

        int consent(int d, int from) {
            return agreed.getOrDefault(d + ">" + from, -4);
        }

        int[] weights(int from, int into) {
            int[] both = new int[2];
            for (int d = 0; d < declares.size(); d++) {
                both[0] += consent(d, from) == into ? weight(d, from) : 0;
                both[1] += weight(d, from);
            }
            return both;
        }

        int agree(int d, int from, int into) {
            if (!donorIs(d) || !purposeIs(from) || !purposeIs(into) || from == into) {
                return -1;
            }
            if (closed(from) || closed(into) || from == 0) {
                return -2;
            }
            agreed.put(d + ">" + from, into);
            return weight(d, from);
        }

        int merge(int from, int into) {
            if (!purposeIs(from) || !purposeIs(into) || from == into) {
                return -1;
            }
            int[] both = weights(from, into);
            if (from == 0 || closed(from) || closed(into) || both[1] == 0 || both[0] * 100 < settings[0] * both[1]) {
                return -2;
            }
            for (Pledge pledge : pledges) {
                if (pledge.state.equals("running") && pledge.purpose == from) {
                    if (consent(pledge.donor, from) == into) {
                        pledge.purpose = into;
                    } else {
                        pledge.state = "stopped";
                    }
                }
            }
            int moved = fund(from);
            book(from, "went", -moved);
            book(into, "came", moved);
            merged.put(from, into);
            agreed.keySet().removeIf(key -> key.endsWith(">" + from));
            return moved;
        }

        int refund(int number) {
            if (number < 0 || number >= gifts.size()) {
                return -1;
            }
            Gift gift = gifts.get(number);
            int tax = gift.claimed ? gift.amount / 4 : 0;
            int home = home(gift.purpose);
            if (gift.refunded || fund(home) < gift.amount + tax) {
                return -2;
            }
            gift.refunded = true;
            book(home, "refund", -gift.amount);
            book(home, "repaid", -tax);
            return tax;
        }

        int pass(int months, boolean forecast) {
            if (months < 1 || months > 60) {
                return -1;
            }
            if (month + months > 999 && !forecast) {
                return -3;
            }
            int before = gifts.size();
            for (int passed = 0; passed < months; passed++) {
                month++;
                for (int number = 0; number < pledges.size(); number++) {
                    passPledge(pledges.get(number), number);
                }
            }
            return gifts.size() - before;
        }

        void passPledge(Pledge pledge, int number) {
            if (!pledge.state.equals("running")) {
                return;
            }
            pledge.gone++;
            boolean last = pledge.gone == pledge.months;
            if (pledge.missNext) {
                pledge.missNext = false;
                pledge.missed++;
                pledge.state = pledge.missed == 3 ? "lapsed" : last ? "done" : "running";
            } else if (give(pledge.donor, pledge.purpose, pledge.amount, number) < 0) {
                pledge.state = "lapsed";
            } else {
                pledge.made++;
                pledge.state = last ? "done" : "running";
            }
        }

        int set(int what, int value) {
            if (what < 0 || what > 1 || value < (what == 0 ? 1 : 0) || value > (what == 0 ? 100 : 99999)) {
                return -1;
            }
            int before = settings[what];
            settings[what] = value;
            return before;
        }

        int purposeOf(int p, int what) {
            if (!purposeIs(p) || what < 0 || what > 11) {
                return -1;
            }
            String[] kinds = {"", "gift", "tax", "spent", "help", "refund", "repaid", "came", "went", "", "", "lent"};
            switch (what) {
                case 0: return fund(p);
                case 9: return merged.getOrDefault(p, -4);
                case 10: return home(p);
                default: return booked(p, kinds[what]);
            }
        }

        int donorOf(int d, int what) {
            if (!donorIs(d) || what < 0 || what > 4 && what < 10 || what >= 10 && !purposeIs(what - 10)) {
                return -1;
            }
            switch (what) {
                case 0: return declares.get(d) ? 1 : 0;
                case 1: return gifts.stream().filter(g -> g.donor == d).mapToInt(g -> g.amount).sum();
                case 2: return gifts.stream().filter(g -> g.donor == d && g.refunded).mapToInt(g -> g.amount).sum();
                case 3: return gifts.stream().filter(g -> g.donor == d && g.claimed && !g.refunded)
                        .mapToInt(g -> g.amount).sum();
                case 4:
                    int set = 0;
                    for (int number = 0; number < pledges.size(); number++) {
                        Pledge pledge = pledges.get(number);
                        set += pledge.donor == d && pledge.state.equals("running") ? 1 << number : 0;
                    }
                    return set;
                default: return consent(d, what - 10);
            }
        }

        int giftOf(int number, int what) {
            if (number < 0 || number >= gifts.size() || what < 0 || what > 7) {
                return -1;
            }
            Gift g = gifts.get(number);
            int[] told = {g.donor, g.purpose, g.amount, g.month, g.claimed ? 1 : 0, g.refunded ? 1 : 0,
                g.pledge < 0 ? -4 : g.pledge, g.amount / 4};
            return told[what];
        }

        int pledgeOf(int number, int what) {
            if (number < 0 || number >= pledges.size() || what < 0 || what > 7) {
                return -1;
            }
            Pledge p = pledges.get(number);
            boolean running = p.state.equals("running");
            int state = List.of("running", "done", "stopped", "lapsed").indexOf(p.state);
            int[] told = {p.donor, p.purpose, p.amount, p.months - p.gone, p.missed, state, p.made,
                running && p.missNext ? 1 : 0};
            return told[what];
        }

        int count(int what) {
            int[] told = {purposes, declares.size(), gifts.size(), pledges.size(), month,
                entries.stream().mapToInt(Entry::amount).sum(), booked(-1, "spent"), booked(-1, "tax"),
                booked(-1, "repaid"), booked(-1, "refund"), merged.size(), 0, 0, settings[0], settings[1]};
            return what < 0 || what >= told.length ? -1 : told[what];
        }

        int consents(int from, int into) {
            if (!purposeIs(from) || !purposeIs(into) || from == into) {
                return -1;
            }
            int[] both = weights(from, into);
            return both[1] == 0 ? -4 : both[0] * 100 / both[1];
        }
    }

    static final class Model {
        private static final Pattern FORM = Pattern.compile("(give( \\d{1,4}){3}|pledge( \\d{1,4}){4}|miss \\d{1,4}"
                + "|claim|spend( \\d{1,4}){2}|agree( \\d{1,4}){3}|merge( \\d{1,4}){2}|refund \\d{1,4}"
                + "|pass \\d{1,4});");
        World world = new World();
        List<World> history = new ArrayList<>();
        StringBuilder text = new StringBuilder();

        /** Position, reason and cause of the fault, or nothing; the last world is that after the commands. */
        int[] run(World trial) {
            int at = 0;
            int commands = 0;
            while (at < text.length()) {
                Matcher form = FORM.matcher(text).region(at, text.length());
                if (!form.lookingAt()) {
                    return new int[] {at, 1, -4, commands};
                }
                int answer = command(trial, form.group(1).split(" "));
                if (answer < 0) {
                    return new int[] {at, 2, answer, commands};
                }
                commands++;
                at = form.end();
            }
            return new int[] {-4, -4, -4, commands};
        }

        private static int command(World w, String[] words) {
            int[] n = new int[4];
            for (int index = 1; index < words.length; index++) {
                n[index - 1] = Integer.parseInt(words[index]);
            }
            switch (words[0]) {
                case "give": return w.give(n[0], n[1], n[2], -1);
                case "pledge": return w.pledge(n[0], n[1], n[2], n[3]);
                case "miss": return w.miss(n[0]);
                case "claim": return w.claim(-1);
                case "spend": return w.spend(n[0], n[1]);
                case "agree": return w.agree(n[0], n[1], n[2]);
                case "merge": return w.merge(n[0], n[1]);
                case "refund": return w.refund(n[0]);
                default: return w.pass(n[0], false);
            }
        }

        private int change(int call, int[] n) {
            World before = world.copy();
            int answer;
            switch (call) {
                case 0: answer = world.addPurpose(); break;
                case 1: answer = world.addDonor(); break;
                case 2: answer = world.declare(n[0], n[1]); break;
                case 3: answer = world.give(n[0], n[1], n[2], -1); break;
                case 4: answer = world.pledge(n[0], n[1], n[2], n[3]); break;
                case 5: answer = world.miss(n[0]); break;
                case 6: answer = world.stop(n[0]); break;
                case 7: answer = world.claim(-1); break;
                case 8: answer = world.spend(n[0], n[1]); break;
                case 9: answer = world.agree(n[0], n[1], n[2]); break;
                case 10: answer = world.merge(n[0], n[1]); break;
                case 11: answer = world.refund(n[0]); break;
                case 12: answer = world.pass(n[0], false); break;
                case 13: answer = world.set(n[0], n[1]); break;
                default:
                    int[] fault = run(world);
                    answer = fault[1] == -4 ? fault[3] : -2;
            }
            if (answer >= 0) {
                history.add(before);
                if (history.size() == 5) {
                    history.remove(0);
                }
            } else {
                world = before;
            }
            return answer;
        }

        int answer(int call, int[] n) {
            switch (call) {
                case 15: return world.purposeOf(n[0], n[1]);
                case 16: return world.donorOf(n[0], n[1]);
                case 17: return world.giftOf(n[0], n[1]);
                case 18: return world.pledgeOf(n[0], n[1]);
                case 19: return n[0] == 11 ? history.size() : n[0] == 12 ? text.length() : world.count(n[0]);
                case 20: return n[0] != -1 && !world.donorIs(n[0]) ? -1 : Math.max(0, world.copy().claim(n[0]));
                case 21: return world.consents(n[0], n[1]);
                case 22: return later(n[0], n[1]);
                case 23: return undo();
                case 24: return type(n[0]);
                case 25: {
                    int length = text.length();
                    text.setLength(0);
                    return length;
                }
                case 26: return n[0] < 0 || n[0] > 2 ? -1 : run(world.copy())[n[0]];
                default: return change(call, n);
            }
        }

        private int later(int purpose, int months) {
            if (!world.purposeIs(purpose) || months < 1 || months > 60) {
                return -1;
            }
            if (world.closed(purpose)) {
                return -2;
            }
            World trial = world.copy();
            trial.pass(months, true);
            return trial.fund(purpose);
        }

        private int undo() {
            if (history.isEmpty()) {
                return -2;
            }
            world = history.remove(history.size() - 1);
            return history.size();
        }

        private int type(int character) {
            if (character < 32 || character > 126) {
                return -1;
            }
            if (text.length() == 80) {
                return -3;
            }
            text.append((char) character);
            return text.length();
        }
    }

    /** One run of random calls on a new object and a new model. */
    static final class Run {
        private static final String[] NAMES = {"purpose", "donor", "declare", "give", "pledge", "miss", "stop",
            "claim", "spend", "agree", "merge", "refund", "pass", "set", "play", "purposeOf", "donorOf", "giftOf",
            "pledgeOf", "count", "wouldClaim", "consents", "later", "undo", "type", "clearText", "fault"};
        private static final int[] ARGUMENTS = {0, 0, 2, 3, 4, 1, 1, 0, 2, 3, 2, 1, 1, 2, 0, 2, 2, 2, 2, 1, 1, 2, 2,
            0, 1, 0, 1};

        private final int seed;
        private final Random random;
        private final GiftPurposes object = new GiftPurposes();
        private final Model model = new Model();
        private final StringBuilder calls = new StringBuilder();
        private final int purposes;
        private final int donors;
        private final int span;
        private final int money;
        private int used = 0;

        Run(int seed) {
            this.seed = seed;
            random = new Random(seed);
            purposes = 1 + random.nextInt(6);
            donors = 1 + random.nextInt(random.nextInt(4) == 0 ? 8 : 3);
            span = random.nextInt(3) == 0 ? 60 : 3;
            money = random.nextInt(3) == 0 ? 9999 : 200;
        }

        boolean agrees() {
            for (int made = 1; made < purposes; made++) {
                if (!same(0)) {
                    return false;
                }
            }
            for (int made = 0; made < donors; made++) {
                if (!same(1) || random.nextBoolean() && !same(2, made, 1)) {
                    return false;
                }
            }
            // some runs are near the last month
            int years = random.nextInt(5) == 0 ? 16 : 0;
            for (int passed = 0; passed < years; passed++) {
                if (!same(12, 60)) {
                    return false;
                }
            }
            while (used < CALLS) {
                if (!step()) {
                    return false;
                }
            }
            return accountsAgree() && everythingTold();
        }

        private boolean step() {
            int dice = random.nextInt(100);
            if (dice < 3) {
                return text();
            }
            if (dice < 5) {
                return wild();
            }
            int call = random.nextInt(27);
            if (call <= 1 && random.nextInt(4) > 0 || call == 23 && random.nextInt(3) > 0) {
                call = 3 + random.nextInt(10);
            }
            return same(call, mild(call));
        }

        private int purpose() {
            return random.nextInt(12) == 0 ? random.nextInt(9) - 1 : random.nextInt(purposes);
        }

        private int donor() {
            return random.nextInt(12) == 0 ? random.nextInt(11) - 1 : random.nextInt(donors);
        }

        private int amount() {
            return random.nextInt(12) == 0 ? random.nextInt(3) * 5000 : random.nextInt(money + 1);
        }

        private int months() {
            return random.nextInt(12) == 0 ? random.nextInt(63) : 1 + random.nextInt(span);
        }

        /** Arguments that are mostly in their ranges. */
        private int[] mild(int call) {
            switch (call) {
                case 2: return new int[] {donor(), random.nextInt(3)};
                case 3: return new int[] {donor(), purpose(), amount()};
                case 4: return new int[] {donor(), purpose(), amount() % 1100, months()};
                case 5: case 6: return new int[] {random.nextInt(7)};
                case 8: return new int[] {purpose(), amount()};
                case 9: return new int[] {donor(), purpose(), purpose()};
                case 10: case 21: return new int[] {purpose(), purpose()};
                case 11: return new int[] {random.nextInt(26) - 1};
                case 12: return new int[] {months()};
                case 13: return random.nextBoolean() ? new int[] {0, random.nextInt(103)}
                        : new int[] {1, random.nextInt(random.nextBoolean() ? 800 : 110000)};
                case 15: return new int[] {purpose(), random.nextInt(14) - 1};
                case 16: return new int[] {donor(), random.nextInt(18) - 1};
                case 17: return new int[] {random.nextInt(26) - 1, random.nextInt(10) - 1};
                case 18: return new int[] {random.nextInt(8) - 1, random.nextInt(10) - 1};
                case 19: return new int[] {random.nextInt(17) - 1};
                case 20: return new int[] {random.nextInt(4) == 0 ? -1 : donor()};
                case 22: return new int[] {purpose(), months()};
                case 24: return new int[] {30 + random.nextInt(100)};
                case 26: return new int[] {random.nextInt(5) - 1};
                default: return new int[4];
            }
        }

        private boolean wild() {
            int[] far = {Integer.MIN_VALUE, Integer.MAX_VALUE, -1, 0, 1, 5, 6, 100, 65536, -10, Integer.MAX_VALUE - 5};
            int[] n = new int[4];
            for (int index = 0; index < 4; index++) {
                n[index] = far[random.nextInt(far.length)];
            }
            return same(random.nextInt(27), n);
        }

        /** Writes a text of some commands, mostly of the form, and asks for its fault, and plays it. */
        private boolean text() {
            StringBuilder text = new StringBuilder();
            int commands = random.nextInt(7);
            for (int made = 0; made < commands; made++) {
                int[] kinds = {3, 4, 5, 7, 8, 9, 10, 11, 12};
                int kind = kinds[random.nextInt(kinds.length)];
                int[] n = mild(kind);
                text.append(NAMES[kind]);
                for (int index = 0; index < ARGUMENTS[kind]; index++) {
                    text.append(random.nextInt(20) == 0 ? " 0" : " ").append(n[index]);
                }
                text.append(';');
            }
            if (random.nextInt(4) == 0 && text.length() > 0) {
                text.setCharAt(random.nextInt(text.length()), (char) (32 + random.nextInt(95)));
            }
            boolean fine = same(25);
            for (int at = 0; fine && at < text.length(); at++) {
                fine = same(24, text.charAt(at));
            }
            for (int what = 0; fine && what < 3; what++) {
                fine = same(26, what);
            }
            return fine && same(14);
        }

        private boolean same(int call, int... given) {
            if (used >= MOST_CALLS) {
                return true;
            }
            used++;
            int[] n = new int[4];
            System.arraycopy(given, 0, n, 0, given.length);
            int got = ask(call, n);
            int want = model.answer(call, n);
            calls.append(NAMES[call]).append('(');
            for (int index = 0; index < ARGUMENTS[call]; index++) {
                calls.append(index == 0 ? "" : ", ").append(n[index]);
            }
            calls.append(") ").append(got).append('\n');
            if (got != want) {
                System.out.println("run " + seed + ":\n" + calls + "due is " + want);
            }
            return got == want;
        }

        private int ask(int call, int[] n) {
            switch (call) {
                case 0: return object.purpose();
                case 1: return object.donor();
                case 2: return object.declare(n[0], n[1]);
                case 3: return object.give(n[0], n[1], n[2]);
                case 4: return object.pledge(n[0], n[1], n[2], n[3]);
                case 5: return object.miss(n[0]);
                case 6: return object.stop(n[0]);
                case 7: return object.claim();
                case 8: return object.spend(n[0], n[1]);
                case 9: return object.agree(n[0], n[1], n[2]);
                case 10: return object.merge(n[0], n[1]);
                case 11: return object.refund(n[0]);
                case 12: return object.pass(n[0]);
                case 13: return object.set(n[0], n[1]);
                case 14: return object.play();
                case 15: return object.purposeOf(n[0], n[1]);
                case 16: return object.donorOf(n[0], n[1]);
                case 17: return object.giftOf(n[0], n[1]);
                case 18: return object.pledgeOf(n[0], n[1]);
                case 19: return object.count(n[0]);
                case 20: return object.wouldClaim(n[0]);
                case 21: return object.consents(n[0], n[1]);
                case 22: return object.later(n[0], n[1]);
                case 23: return object.undo();
                case 24: return object.type(n[0]);
                case 25: return object.clearText();
                default: return object.fault(n[0]);
            }
        }

        /** What is told of all that there is, and of one number more of each; the latest gifts first. */
        private boolean everythingTold() {
            boolean fine = same(20, -1);
            for (int what = 0; fine && what < 15; what++) {
                fine = same(19, what);
            }
            for (int pledge = model.world.pledges.size(); fine && pledge >= 0; pledge--) {
                fine = allOf(18, pledge, 8);
            }
            for (int donor = model.world.declares.size(); fine && donor >= 0; donor--) {
                fine = allOf(16, donor, 16);
            }
            for (int gift = model.world.gifts.size(); fine && gift >= 0; gift--) {
                fine = allOf(17, gift, 8);
            }
            return fine;
        }

        private boolean allOf(int call, int number, int numbers) {
            boolean fine = true;
            for (int what = 0; fine && what < numbers; what++) {
                fine = same(call, number, what);
            }
            return fine;
        }

        private boolean accountsAgree() {
            int[] signs = {-1, 1, 1, -1, 1, -1, -1, 1, -1, 0, 0, -1};
            for (int purpose = 0; purpose < model.world.purposes; purpose++) {
                if (!allOf(15, purpose, 12)) {
                    return false;
                }
                int sum = 0;
                for (int what = 0; what < signs.length; what++) {
                    sum += signs[what] * model.world.purposeOf(purpose, what);
                }
                if (sum != 0 || model.world.fund(purpose) < 0) {
                    System.out.println("run " + seed + ":\n" + calls + "the accounts of " + purpose + " do not agree");
                    return false;
                }
            }
            return true;
        }
    }
}
