/**
 * Gifts for purposes: donors, gifts, pledges, claims of taxes, spending, merging, refunds, and commands as texts.
 *
 * <p>What each call promises is told in the document of the project; the numbers of promises stand at the calls.
 */
public final class GiftPurposes {
    /** An argument is out of its range, or there is no such purpose, donor, gift or pledge. */
    public static final int INVALID_ARGUMENT = -1;
    /** The call is not possible in the present state. */
    public static final int NOT_POSSIBLE = -2;
    /** A fixed limit has been reached. */
    public static final int LIMIT_REACHED = -3;
    /** There is no such value. */
    public static final int NOT_FOUND = -4;

    /** Stands where a number of a purpose, pledge, row or command could stand, but there is none. */
    private static final int NONE = -1;
    /** In place of a donor's number: all donors. */
    private static final int ALL = -1;

    private final Books books = new Books(new int[Books.CELLS]);
    /** Takes what is only tried: forecasts, and texts before it is known whether they have a fault. */
    private final Books trial = new Books(new int[Books.CELLS]);
    private final History history = new History();
    private final Script script = new Script();

    /** Promise 1. */
    public GiftPurposes() {
    }

    // ---- purposes, donors

    /** Promise 2. */
    public int purpose() {
        history.draft(books);
        return history.keepUnlessError(books.addPurpose());
    }

    /** Promise 3. */
    public int donor() {
        history.draft(books);
        return history.keepUnlessError(books.addDonor());
    }

    /** Promise 4. */
    public int declare(int donor, int does) {
        history.draft(books);
        return history.keepUnlessError(books.letDeclare(donor, does));
    }

    // ---- gifts, pledges

    /** Promise 5. */
    public int give(int donor, int purpose, int amount) {
        history.draft(books);
        return history.keepUnlessError(books.addGift(donor, purpose, amount));
    }

    /** Promise 6. */
    public int pledge(int donor, int purpose, int amount, int months) {
        history.draft(books);
        return history.keepUnlessError(books.addPledge(donor, purpose, amount, months));
    }

    /** Promise 7. */
    public int miss(int pledge) {
        history.draft(books);
        return history.keepUnlessError(books.tellMiss(pledge));
    }

    /** Promise 8. */
    public int stop(int pledge) {
        history.draft(books);
        return history.keepUnlessError(books.stopPledge(pledge));
    }

    /** Promise 9. */
    public int claim() {
        history.draft(books);
        return history.keepUnlessError(books.claimGifts(ALL));
    }

    // ---- spending, merging, refunds

    /** Promise 10. */
    public int spend(int purpose, int amount) {
        history.draft(books);
        return history.keepUnlessError(books.spendOn(purpose, amount));
    }

    /** Promise 11. */
    public int agree(int donor, int from, int into) {
        history.draft(books);
        return history.keepUnlessError(books.consentTo(donor, from, into));
    }

    /** Promise 12. */
    public int merge(int from, int into) {
        history.draft(books);
        return history.keepUnlessError(books.mergePurpose(from, into));
    }

    /** Promise 13. */
    public int refund(int gift) {
        history.draft(books);
        return history.keepUnlessError(books.refundGift(gift));
    }

    /** Promise 14. */
    public int pass(int months) {
        history.draft(books);
        return history.keepUnlessError(books.passMonths(months, Books.LAST_MONTH));
    }

    /** Promise 15. */
    public int set(int what, int value) {
        history.draft(books);
        return history.keepUnlessError(books.changeSetting(what, value));
    }

    // ---- what there is

    /** Promise 16. */
    public int purposeOf(int purpose, int what) {
        return books.tellPurpose(purpose, what);
    }

    /** Promise 17. */
    public int donorOf(int donor, int what) {
        return books.tellDonor(donor, what);
    }

    /** Promise 18. */
    public int giftOf(int gift, int what) {
        return books.tellGift(gift, what);
    }

    /** Promise 19. */
    public int pledgeOf(int pledge, int what) {
        return books.tellPledge(pledge, what);
    }

    /** Promise 20. */
    public int count(int what) {
        switch (what) {
            case 11:
                return history.size();
            case 12:
                return script.size();
            default:
                return books.tellNumber(what);
        }
    }

    // ---- what would be

    /** Promise 21. */
    public int wouldClaim(int donor) {
        if (donor != ALL && !books.hasDonor(donor)) {
            return INVALID_ARGUMENT;
        }
        trial.copyFrom(books);
        return Math.max(0, trial.claimGifts(donor));
    }

    /** Promise 22. */
    public int consents(int from, int into) {
        return books.tellConsents(from, into);
    }

    /** Promise 23. */
    public int later(int purpose, int months) {
        if (!books.hasPurpose(purpose) || !Books.isSpan(months)) {
            return INVALID_ARGUMENT;
        }
        if (books.isClosed(purpose)) {
            return NOT_POSSIBLE;
        }
        trial.copyFrom(books);
        trial.passMonths(months, Books.LAST_FORECAST);
        return trial.fundOf(purpose);
    }

    /** Promise 24. */
    public int undo() {
        return history.restoreLatest(books);
    }

    // ---- texts

    /** Promise 25. */
    public int type(int character) {
        return script.append(character);
    }

    /** Promise 26. */
    public int clearText() {
        return script.empty();
    }

    /** Promise 27. */
    public int fault(int what) {
        if (!within(what, 0, 2)) {
            return INVALID_ARGUMENT;
        }
        trial.copyFrom(books);
        script.runOn(trial);
        return script.tellFault(what);
    }

    /** Promise 28. */
    public int play() {
        trial.copyFrom(books);
        int commands = script.runOn(trial);
        if (commands == NONE) {
            return NOT_POSSIBLE;
        }
        history.draft(books);
        books.copyFrom(trial);
        return history.keepUnlessError(commands);
    }

    private static boolean within(int value, int lowest, int highest) {
        return value >= lowest && value <= highest;
    }

    /** Rows of one kind in a part of the cells of the books: first how many there are, then the rows. */
    private static final class Table {
        private final int[] cells;
        private final int start;
        private final int most;
        private final int width;

        Table(int[] cells, int start, int most, int width) {
            this.cells = cells;
            this.start = start;
            this.most = most;
            this.width = width;
        }

        int size() {
            return cells[start];
        }

        boolean has(int row) {
            return row >= 0 && row < cells[start];
        }

        boolean isFull() {
            return cells[start] >= most;
        }

        /**
         * Returns the number of the new row, NONE if the table is full. The row is all 0, since rows are taken away
         * only by a copy of all cells from a state in which they were not there.
         */
        int addRow() {
            int row = cells[start];
            if (row >= most) {
                return NONE;
            }
            cells[start] = row + 1;
            return row;
        }

        int at(int row, int column) {
            if (row < 0 || row >= most || column < 0 || column >= width) {
                return 0;
            }
            return cells[start + 1 + row * width + column];
        }

        void put(int row, int column, int value) {
            if (row >= 0 && row < most && column >= 0 && column < width) {
                cells[start + 1 + row * width + column] = value;
            }
        }

        void add(int row, int column, int more) {
            if (row >= 0 && row < most && column >= 0 && column < width) {
                cells[start + 1 + row * width + column] += more;
            }
        }

        int sumOf(int column) {
            int sum = 0;
            for (int row = 0; row < cells[start]; row++) {
                sum += at(row, column);
            }
            return sum;
        }
    }

    /** The whole state but the text and the history, in one array, so that it is kept and restored by one copy. */
    private static final class Books {
        private static final int MOST_PURPOSES = 6;
        private static final int MOST_DONORS = 8;
        private static final int MOST_GIFTS = 24;
        private static final int MOST_PLEDGES = 6;

        private static final int GENERAL = 0;
        private static final int HIGHEST_GIFT = 9999;
        private static final int HIGHEST_PLEDGE = 999;
        private static final int LONGEST_SPAN = 60;
        static final int LAST_MONTH = 999;
        static final int LAST_FORECAST = LAST_MONTH + LONGEST_SPAN;
        private static final int MONTHS_OF_YEAR = 12;
        private static final int OLDEST_CLAIMED = 47;
        private static final int MISSES_TO_LAPSE = 3;

        /** Columns of purposes: the numbers that purposeOf takes. */
        private static final int FUND = 0;
        private static final int GIVEN = 1;
        private static final int TAXES = 2;
        private static final int SPENT = 3;
        private static final int HELP = 4;
        private static final int REFUNDS = 5;
        private static final int REPAID = 6;
        private static final int CAME = 7;
        private static final int WENT = 8;
        private static final int MERGED_INTO = 9;
        private static final int HOME = 10;
        private static final int LENT = 11;
        private static final int PURPOSE_WIDTH = 12;

        /** Columns of donors: whether the donor declares, then for each purpose a consent. */
        private static final int DECLARES = 0;
        private static final int CONSENTS = 1;
        private static final int DONOR_WIDTH = CONSENTS + MOST_PURPOSES;

        /** The first of the numbers of donorOf that ask for a consent. */
        private static final int ASKS_CONSENT = 10;

        /** Columns of gifts: the numbers that giftOf takes. */
        private static final int GIFT_DONOR = 0;
        private static final int GIFT_PURPOSE = 1;
        private static final int GIFT_AMOUNT = 2;
        private static final int GIFT_MONTH = 3;
        private static final int CLAIMED = 4;
        private static final int REFUNDED = 5;
        private static final int GIFT_PLEDGE = 6;
        private static final int GIFT_WIDTH = 7;
        /** The number of giftOf that has no column. */
        private static final int ASKS_TAX = 7;

        /** Columns of pledges: the numbers that pledgeOf takes. */
        private static final int PLEDGE_DONOR = 0;
        private static final int PLEDGE_PURPOSE = 1;
        private static final int PLEDGE_AMOUNT = 2;
        private static final int LEFT = 3;
        private static final int MISSED = 4;
        private static final int STANDING = 5;
        private static final int MADE = 6;
        private static final int MISSES_NEXT = 7;
        private static final int PLEDGE_WIDTH = 8;

        /** The standings of a pledge. */
        private static final int RUNNING = 0;
        private static final int DONE = 1;
        private static final int STOPPED = 2;
        private static final int LAPSED = 3;

        /** Where everything stands in the cells. */
        private static final int MONTH = 0;
        private static final int HUNDREDTHS = 1;
        private static final int BOUND = 2;
        private static final int PURPOSES_AT = 3;
        private static final int DONORS_AT = PURPOSES_AT + 1 + MOST_PURPOSES * PURPOSE_WIDTH;
        private static final int GIFTS_AT = DONORS_AT + 1 + MOST_DONORS * DONOR_WIDTH;
        private static final int PLEDGES_AT = GIFTS_AT + 1 + MOST_GIFTS * GIFT_WIDTH;
        static final int CELLS = PLEDGES_AT + 1 + MOST_PLEDGES * PLEDGE_WIDTH;

        private final int[] cells;
        private final Table purposes;
        private final Table donors;
        private final Table gifts;
        private final Table pledges;

        /** The array has CELLS elements, which are 0. */
        Books(int[] cells) {
            this.cells = cells;
            purposes = new Table(cells, PURPOSES_AT, MOST_PURPOSES, PURPOSE_WIDTH);
            donors = new Table(cells, DONORS_AT, MOST_DONORS, DONOR_WIDTH);
            gifts = new Table(cells, GIFTS_AT, MOST_GIFTS, GIFT_WIDTH);
            pledges = new Table(cells, PLEDGES_AT, MOST_PLEDGES, PLEDGE_WIDTH);
            cells[HUNDREDTHS] = 60;
            cells[BOUND] = 5000;
            addPurpose();
        }

        void copyFrom(Books other) {
            System.arraycopy(other.cells, 0, cells, 0, CELLS);
        }

        /** The array has CELLS elements. */
        void saveTo(int[] kept) {
            System.arraycopy(cells, 0, kept, 0, CELLS);
        }

        /** The array has CELLS elements. */
        void loadFrom(int[] kept) {
            System.arraycopy(kept, 0, cells, 0, CELLS);
        }

        // ---- purposes, donors

        int addPurpose() {
            int purpose = purposes.addRow();
            if (purpose == NONE) {
                return LIMIT_REACHED;
            }
            purposes.put(purpose, MERGED_INTO, NONE);
            purposes.put(purpose, HOME, purpose);
            return purpose;
        }

        int addDonor() {
            int donor = donors.addRow();
            if (donor == NONE) {
                return LIMIT_REACHED;
            }
            for (int purpose = 0; purpose < MOST_PURPOSES; purpose++) {
                donors.put(donor, CONSENTS + purpose, NONE);
            }
            return donor;
        }

        int letDeclare(int donor, int does) {
            if (!donors.has(donor) || !within(does, 0, 1)) {
                return INVALID_ARGUMENT;
            }
            int before = donors.at(donor, DECLARES);
            donors.put(donor, DECLARES, does);
            return before;
        }

        boolean hasPurpose(int purpose) {
            return purposes.has(purpose);
        }

        boolean hasDonor(int donor) {
            return donors.has(donor);
        }

        boolean isClosed(int purpose) {
            return purposes.at(purpose, MERGED_INTO) != NONE;
        }

        int fundOf(int purpose) {
            return purposes.at(purpose, FUND);
        }

        // ---- gifts

        int addGift(int donor, int purpose, int amount) {
            if (!donors.has(donor) || !purposes.has(purpose) || !within(amount, 1, HIGHEST_GIFT)) {
                return INVALID_ARGUMENT;
            }
            if (isClosed(purpose)) {
                return NOT_POSSIBLE;
            }
            if (gifts.isFull()) {
                return LIMIT_REACHED;
            }
            return bookGift(donor, purpose, amount, NONE);
        }

        private int bookGift(int donor, int purpose, int amount, int pledge) {
            int gift = gifts.addRow();
            gifts.put(gift, GIFT_DONOR, donor);
            gifts.put(gift, GIFT_PURPOSE, purpose);
            gifts.put(gift, GIFT_AMOUNT, amount);
            gifts.put(gift, GIFT_MONTH, cells[MONTH]);
            gifts.put(gift, GIFT_PLEDGE, pledge);
            purposes.add(purpose, FUND, amount);
            purposes.add(purpose, GIVEN, amount);
            return gift;
        }

        private int taxOf(int gift) {
            return gifts.at(gift, GIFT_AMOUNT) / 4;
        }

        private int homeOfGift(int gift) {
            return purposes.at(gifts.at(gift, GIFT_PURPOSE), HOME);
        }

        private boolean isOf(int gift, int donor) {
            return gifts.at(gift, GIFT_DONOR) == donor;
        }

        private boolean isClaimed(int gift) {
            return gifts.at(gift, CLAIMED) == 1;
        }

        private boolean isRefunded(int gift) {
            return gifts.at(gift, REFUNDED) == 1;
        }

        // ---- pledges

        int addPledge(int donor, int purpose, int amount, int months) {
            if (!donors.has(donor) || !purposes.has(purpose)
                    || !within(amount, 1, HIGHEST_PLEDGE) || !isSpan(months)) {
                return INVALID_ARGUMENT;
            }
            if (isClosed(purpose)) {
                return NOT_POSSIBLE;
            }
            int pledge = pledges.addRow();
            if (pledge == NONE) {
                return LIMIT_REACHED;
            }
            pledges.put(pledge, PLEDGE_DONOR, donor);
            pledges.put(pledge, PLEDGE_PURPOSE, purpose);
            pledges.put(pledge, PLEDGE_AMOUNT, amount);
            pledges.put(pledge, LEFT, months);
            return pledge;
        }

        int tellMiss(int pledge) {
            if (!pledges.has(pledge)) {
                return INVALID_ARGUMENT;
            }
            if (!isRunning(pledge) || pledges.at(pledge, MISSES_NEXT) == 1) {
                return NOT_POSSIBLE;
            }
            pledges.put(pledge, MISSES_NEXT, 1);
            return pledges.at(pledge, MISSED);
        }

        int stopPledge(int pledge) {
            if (!pledges.has(pledge)) {
                return INVALID_ARGUMENT;
            }
            if (!isRunning(pledge)) {
                return NOT_POSSIBLE;
            }
            haltPledge(pledge);
            return pledges.at(pledge, LEFT);
        }

        private boolean isRunning(int pledge) {
            return pledges.at(pledge, STANDING) == RUNNING;
        }

        private void haltPledge(int pledge) {
            pledges.put(pledge, STANDING, STOPPED);
            pledges.put(pledge, MISSES_NEXT, 0);
        }

        // ---- months

        static boolean isSpan(int months) {
            return within(months, 1, LONGEST_SPAN);
        }

        /** Returns how many gifts are made; the last month that is allowed is told, since forecasts go beyond it. */
        int passMonths(int months, int lastMonth) {
            if (!isSpan(months)) {
                return INVALID_ARGUMENT;
            }
            if (cells[MONTH] + months > lastMonth) {
                return LIMIT_REACHED;
            }
            int before = gifts.size();
            for (int passed = 0; passed < months; passed++) {
                cells[MONTH]++;
                for (int pledge = 0; pledge < pledges.size(); pledge++) {
                    if (isRunning(pledge)) {
                        runPledge(pledge);
                    }
                }
            }
            return gifts.size() - before;
        }

        private void runPledge(int pledge) {
            pledges.add(pledge, LEFT, -1);
            boolean lapses;
            if (pledges.at(pledge, MISSES_NEXT) == 1) {
                pledges.put(pledge, MISSES_NEXT, 0);
                pledges.add(pledge, MISSED, 1);
                lapses = pledges.at(pledge, MISSED) >= MISSES_TO_LAPSE;
            } else {
                lapses = gifts.isFull();
                if (!lapses) {
                    int donor = pledges.at(pledge, PLEDGE_DONOR);
                    int purpose = pledges.at(pledge, PLEDGE_PURPOSE);
                    bookGift(donor, purpose, pledges.at(pledge, PLEDGE_AMOUNT), pledge);
                    pledges.add(pledge, MADE, 1);
                }
            }
            // a pledge that lapses in its last month is not done
            if (lapses) {
                pledges.put(pledge, STANDING, LAPSED);
            } else if (pledges.at(pledge, LEFT) == 0) {
                pledges.put(pledge, STANDING, DONE);
            }
        }

        // ---- claims

        /** Claims what can be claimed of a donor's gifts, or of ALL. */
        int claimGifts(int donor) {
            int taxes = 0;
            boolean any = false;
            for (int gift = 0; gift < gifts.size(); gift++) {
                if ((donor == ALL || isOf(gift, donor)) && canBeClaimed(gift)) {
                    gifts.put(gift, CLAIMED, 1);
                    purposes.add(homeOfGift(gift), FUND, taxOf(gift));
                    purposes.add(homeOfGift(gift), TAXES, taxOf(gift));
                    taxes += taxOf(gift);
                    any = true;
                }
            }
            return any ? taxes : NOT_POSSIBLE;
        }

        private boolean canBeClaimed(int gift) {
            int donor = gifts.at(gift, GIFT_DONOR);
            int month = gifts.at(gift, GIFT_MONTH);
            if (isClaimed(gift) || isRefunded(gift) || donors.at(donor, DECLARES) == 0) {
                return false;
            }
            if (cells[MONTH] - month > OLDEST_CLAIMED) {
                return false;
            }
            int claimed = claimedInYear(donor, month / MONTHS_OF_YEAR);
            return claimed + gifts.at(gift, GIFT_AMOUNT) <= cells[BOUND];
        }

        private int claimedInYear(int donor, int year) {
            int sum = 0;
            for (int gift = 0; gift < gifts.size(); gift++) {
                if (gifts.at(gift, GIFT_DONOR) == donor && gifts.at(gift, GIFT_MONTH) / MONTHS_OF_YEAR == year
                        && gifts.at(gift, CLAIMED) == 1 && gifts.at(gift, REFUNDED) == 0) {
                    sum += gifts.at(gift, GIFT_AMOUNT);
                }
            }
            return sum;
        }

        // ---- spending, refunds

        int spendOn(int purpose, int amount) {
            if (!purposes.has(purpose) || !within(amount, 1, HIGHEST_GIFT)) {
                return INVALID_ARGUMENT;
            }
            if (isClosed(purpose)) {
                return NOT_POSSIBLE;
            }
            int help = Math.max(0, amount - fundOf(purpose));
            if (help > 0 && (purpose == GENERAL || fundOf(GENERAL) < help)) {
                return NOT_POSSIBLE;
            }
            purposes.add(purpose, FUND, help - amount);
            purposes.add(purpose, SPENT, amount);
            purposes.add(purpose, HELP, help);
            purposes.add(GENERAL, FUND, -help);
            purposes.add(GENERAL, LENT, help);
            return help;
        }

        int refundGift(int gift) {
            if (!gifts.has(gift)) {
                return INVALID_ARGUMENT;
            }
            int amount = gifts.at(gift, GIFT_AMOUNT);
            int tax = isClaimed(gift) ? taxOf(gift) : 0;
            int home = homeOfGift(gift);
            if (isRefunded(gift) || fundOf(home) < amount + tax) {
                return NOT_POSSIBLE;
            }
            gifts.put(gift, REFUNDED, 1);
            purposes.add(home, FUND, -amount - tax);
            purposes.add(home, REFUNDS, amount);
            purposes.add(home, REPAID, tax);
            return tax;
        }

        // ---- merging

        int consentTo(int donor, int from, int into) {
            if (!donors.has(donor) || !areTwoPurposes(from, into)) {
                return INVALID_ARGUMENT;
            }
            if (!areMergeable(from, into)) {
                return NOT_POSSIBLE;
            }
            donors.put(donor, CONSENTS + from, into);
            return weightOfDonor(donor, from);
        }

        int mergePurpose(int from, int into) {
            if (!areTwoPurposes(from, into)) {
                return INVALID_ARGUMENT;
            }
            int all = weightOfAll(from);
            boolean enough = weightOfConsents(from, into) * 100 >= cells[HUNDREDTHS] * all;
            if (!areMergeable(from, into) || all == 0 || !enough) {
                return NOT_POSSIBLE;
            }
            handOnPledges(from, into);
            forgetConsents(from);
            closePurpose(from, into);
            return moveFund(from, into);
        }

        int tellConsents(int from, int into) {
            if (!areTwoPurposes(from, into)) {
                return INVALID_ARGUMENT;
            }
            int all = weightOfAll(from);
            return all > 0 ? weightOfConsents(from, into) * 100 / all : NOT_FOUND;
        }

        private boolean areTwoPurposes(int from, int into) {
            return purposes.has(from) && purposes.has(into) && from != into;
        }

        private boolean areMergeable(int from, int into) {
            return from != GENERAL && !isClosed(from) && !isClosed(into);
        }

        private boolean agreesTo(int donor, int from, int into) {
            return donors.at(donor, CONSENTS + from) == into;
        }

        /** What a gift weighs for the merging of a purpose: 0 if it was for another one, or was refunded. */
        private int weightOf(int gift, int purpose) {
            boolean weighs = gifts.at(gift, GIFT_PURPOSE) == purpose && gifts.at(gift, REFUNDED) == 0;
            return weighs ? gifts.at(gift, GIFT_AMOUNT) : 0;
        }

        private int weightOfDonor(int donor, int purpose) {
            int weight = 0;
            for (int gift = 0; gift < gifts.size(); gift++) {
                if (isOf(gift, donor)) {
                    weight += weightOf(gift, purpose);
                }
            }
            return weight;
        }

        private int weightOfAll(int purpose) {
            int weight = 0;
            for (int gift = 0; gift < gifts.size(); gift++) {
                weight += weightOf(gift, purpose);
            }
            return weight;
        }

        private int weightOfConsents(int from, int into) {
            int weight = 0;
            for (int gift = 0; gift < gifts.size(); gift++) {
                if (agreesTo(gifts.at(gift, GIFT_DONOR), from, into)) {
                    weight += weightOf(gift, from);
                }
            }
            return weight;
        }

        private void handOnPledges(int from, int into) {
            for (int pledge = 0; pledge < pledges.size(); pledge++) {
                if (isRunning(pledge) && pledges.at(pledge, PLEDGE_PURPOSE) == from) {
                    if (agreesTo(pledges.at(pledge, PLEDGE_DONOR), from, into)) {
                        pledges.put(pledge, PLEDGE_PURPOSE, into);
                    } else {
                        haltPledge(pledge);
                    }
                }
            }
        }

        private void forgetConsents(int from) {
            for (int donor = 0; donor < donors.size(); donor++) {
                donors.put(donor, CONSENTS + from, NONE);
            }
        }

        /** Purposes that were merged into the closed one before have their home in the other one, too. */
        private void closePurpose(int from, int into) {
            purposes.put(from, MERGED_INTO, into);
            for (int purpose = 0; purpose < purposes.size(); purpose++) {
                if (purposes.at(purpose, HOME) == from) {
                    purposes.put(purpose, HOME, into);
                }
            }
        }

        private int moveFund(int from, int into) {
            int moved = fundOf(from);
            purposes.put(from, FUND, 0);
            purposes.add(from, WENT, moved);
            purposes.add(into, FUND, moved);
            purposes.add(into, CAME, moved);
            return moved;
        }

        // ---- settings

        int changeSetting(int what, int value) {
            boolean known = what == 0 ? within(value, 1, 100) : what == 1 && within(value, 0, 99999);
            if (!known) {
                return INVALID_ARGUMENT;
            }
            int cell = what == 0 ? HUNDREDTHS : BOUND;
            int before = cells[cell];
            cells[cell] = value;
            return before;
        }

        // ---- what there is

        int tellPurpose(int purpose, int what) {
            if (!purposes.has(purpose) || !within(what, 0, PURPOSE_WIDTH - 1)) {
                return INVALID_ARGUMENT;
            }
            if (what == MERGED_INTO && !isClosed(purpose)) {
                return NOT_FOUND;
            }
            return purposes.at(purpose, what);
        }

        int tellDonor(int donor, int what) {
            if (!donors.has(donor)) {
                return INVALID_ARGUMENT;
            }
            switch (what) {
                case 0:
                    return donors.at(donor, DECLARES);
                case 1:
                case 2:
                case 3:
                    return amountsOf(donor, what);
                case 4:
                    return runningPledgesOf(donor);
                default:
                    return tellConsent(donor, what);
            }
        }

        private int tellConsent(int donor, int what) {
            if (what < ASKS_CONSENT || !purposes.has(what - ASKS_CONSENT)) {
                return INVALID_ARGUMENT;
            }
            int into = donors.at(donor, CONSENTS + what - ASKS_CONSENT);
            return into == NONE ? NOT_FOUND : into;
        }

        /** The amounts of gifts that donorOf asks for by 1, 2 and 3. */
        private int amountsOf(int donor, int what) {
            int sum = 0;
            for (int gift = 0; gift < gifts.size(); gift++) {
                boolean counts = what == 1
                        || what == 2 && isRefunded(gift)
                        || what == 3 && isClaimed(gift) && !isRefunded(gift);
                if (counts && isOf(gift, donor)) {
                    sum += gifts.at(gift, GIFT_AMOUNT);
                }
            }
            return sum;
        }

        private int runningPledgesOf(int donor) {
            int numbers = 0;
            for (int pledge = 0; pledge < pledges.size(); pledge++) {
                if (isRunning(pledge) && pledges.at(pledge, PLEDGE_DONOR) == donor) {
                    numbers |= 1 << pledge;
                }
            }
            return numbers;
        }

        int tellGift(int gift, int what) {
            if (!gifts.has(gift) || !within(what, 0, ASKS_TAX)) {
                return INVALID_ARGUMENT;
            }
            if (what == ASKS_TAX) {
                return taxOf(gift);
            }
            int told = gifts.at(gift, what);
            return what == GIFT_PLEDGE && told == NONE ? NOT_FOUND : told;
        }

        int tellPledge(int pledge, int what) {
            if (!pledges.has(pledge) || !within(what, 0, PLEDGE_WIDTH - 1)) {
                return INVALID_ARGUMENT;
            }
            return pledges.at(pledge, what);
        }

        /** The numbers of count, without those of the history and the text. */
        int tellNumber(int what) {
            switch (what) {
                case 0:
                    return purposes.size();
                case 1:
                    return donors.size();
                case 2:
                    return gifts.size();
                case 3:
                    return pledges.size();
                case 4:
                    return cells[MONTH];
                case 5:
                    return purposes.sumOf(FUND);
                case 6:
                    return purposes.sumOf(SPENT);
                case 7:
                    return purposes.sumOf(TAXES);
                case 8:
                    return purposes.sumOf(REPAID);
                case 9:
                    return purposes.sumOf(REFUNDS);
                case 10:
                    return closedPurposes();
                case 13:
                    return cells[HUNDREDTHS];
                case 14:
                    return cells[BOUND];
                default:
                    return INVALID_ARGUMENT;
            }
        }

        private int closedPurposes() {
            int closed = 0;
            for (int purpose = 0; purpose < purposes.size(); purpose++) {
                if (isClosed(purpose)) {
                    closed++;
                }
            }
            return closed;
        }
    }

    /** The latest states, in a ring with one row more than states, so that a draft never overwrites a state. */
    private static final class History {
        private static final int MOST_STATES = 4;
        private static final int ROWS = MOST_STATES + 1;

        private final int[][] rows = new int[ROWS][Books.CELLS];
        private int oldest = 0;
        private int states = 0;

        int size() {
            return states;
        }

        /** Notes a state ahead of a call, while it is not known yet whether the call is a change. */
        void draft(Books books) {
            books.saveTo(rows[(oldest + states) % ROWS]);
        }

        /** Makes the draft the latest state if the call was a change; returns the call's answer. */
        int keepUnlessError(int answer) {
            if (answer >= 0) {
                if (states < MOST_STATES) {
                    states++;
                } else {
                    oldest = (oldest + 1) % ROWS;
                }
            }
            return answer;
        }

        int restoreLatest(Books books) {
            if (states == 0) {
                return NOT_POSSIBLE;
            }
            states--;
            books.loadFrom(rows[(oldest + states) % ROWS]);
            return states;
        }
    }

    /** The text of commands, with the command that was read last and the fault that was found last. */
    private static final class Script {
        private static final int MOST_SIGNS = 80;
        private static final int MOST_NUMBERS = 4;
        private static final int MOST_DIGITS = 4;

        private static final int GIVE = 0;
        private static final int PLEDGE = 1;
        private static final int MISS = 2;
        private static final int CLAIM = 3;
        private static final int SPEND = 4;
        private static final int AGREE = 5;
        private static final int MERGE = 6;
        private static final int REFUND = 7;
        private static final int PASS = 8;
        private static final int KINDS = 9;

        /** The reasons of faults. */
        private static final int NO_FAULT = 0;
        private static final int NOT_OF_THE_FORM = 1;
        private static final int RETURNS_ERROR = 2;

        private final char[] signs = new char[MOST_SIGNS];
        private int length = 0;

        private final int[] numbers = new int[MOST_NUMBERS];
        /** The place up to which the text has been read. */
        private int read = 0;

        private int place = 0;
        private int reason = NO_FAULT;
        private int cause = 0;

        int size() {
            return length;
        }

        int append(int character) {
            if (!within(character, 32, 126)) {
                return INVALID_ARGUMENT;
            }
            if (length >= MOST_SIGNS) {
                return LIMIT_REACHED;
            }
            signs[length] = (char) character;
            length++;
            return length;
        }

        int empty() {
            int before = length;
            length = 0;
            return before;
        }

        /** Does the commands up to the first fault; returns how many there are, NONE if there is a fault. */
        int runOn(Books books) {
            read = 0;
            reason = NO_FAULT;
            int commands = 0;
            // a command has at least one character
            while (commands < MOST_SIGNS && read < length) {
                place = read;
                int kind = readCommand();
                if (kind == NONE) {
                    return fail(NOT_OF_THE_FORM, NOT_FOUND);
                }
                int answer = perform(kind, books);
                if (answer < 0) {
                    return fail(RETURNS_ERROR, answer);
                }
                commands++;
            }
            return commands;
        }

        /** Tells of the fault that the last run found. */
        int tellFault(int what) {
            if (reason == NO_FAULT) {
                return NOT_FOUND;
            }
            switch (what) {
                case 0:
                    return place;
                case 1:
                    return reason;
                default:
                    return cause;
            }
        }

        private int fail(int reasonOfFault, int causeOfFault) {
            reason = reasonOfFault;
            cause = causeOfFault;
            return NONE;
        }

        /** Returns the kind of the command that is next; NONE if it is not of the form. */
        private int readCommand() {
            int kind = readKind();
            int due = numbersOf(kind);
            for (int index = 0; index < due; index++) {
                if (!readSign(' ') || !readNumber(index)) {
                    return NONE;
                }
            }
            return readSign(';') ? kind : NONE;
        }

        private int readKind() {
            for (int kind = 0; kind < KINDS; kind++) {
                String word = wordOf(kind);
                if (standsNext(word)) {
                    read += word.length();
                    return kind;
                }
            }
            return NONE;
        }

        private boolean standsNext(String word) {
            if (word.length() > length - read) {
                return false;
            }
            for (int index = 0; index < word.length(); index++) {
                if (signAt(read + index) != word.charAt(index)) {
                    return false;
                }
            }
            return true;
        }

        private boolean readSign(char sign) {
            if (signAt(read) != sign) {
                return false;
            }
            read++;
            return true;
        }

        private boolean readNumber(int index) {
            int value = 0;
            int digits = 0;
            while (digits < MOST_DIGITS && within(signAt(read), '0', '9')) {
                value = value * 10 + signAt(read) - '0';
                digits++;
                read++;
            }
            if (digits == 0 || !within(index, 0, MOST_NUMBERS - 1)) {
                return false;
            }
            numbers[index] = value;
            return true;
        }

        /** Behind the end of the text stands 0, which is no sign of a command. */
        private char signAt(int at) {
            return within(at, 0, Math.min(length, MOST_SIGNS) - 1) ? signs[at] : (char) 0;
        }

        private int perform(int kind, Books books) {
            switch (kind) {
                case GIVE:
                    return books.addGift(numbers[0], numbers[1], numbers[2]);
                case PLEDGE:
                    return books.addPledge(numbers[0], numbers[1], numbers[2], numbers[3]);
                case MISS:
                    return books.tellMiss(numbers[0]);
                case CLAIM:
                    return books.claimGifts(ALL);
                case SPEND:
                    return books.spendOn(numbers[0], numbers[1]);
                case AGREE:
                    return books.consentTo(numbers[0], numbers[1], numbers[2]);
                case MERGE:
                    return books.mergePurpose(numbers[0], numbers[1]);
                case REFUND:
                    return books.refundGift(numbers[0]);
                case PASS:
                    return books.passMonths(numbers[0], Books.LAST_MONTH);
                default:
                    return INVALID_ARGUMENT;
            }
        }

        private static String wordOf(int kind) {
            switch (kind) {
                case GIVE:
                    return "give";
                case PLEDGE:
                    return "pledge";
                case MISS:
                    return "miss";
                case CLAIM:
                    return "claim";
                case SPEND:
                    return "spend";
                case AGREE:
                    return "agree";
                case MERGE:
                    return "merge";
                case REFUND:
                    return "refund";
                default:
                    return "pass";
            }
        }

        private static int numbersOf(int kind) {
            switch (kind) {
                case PLEDGE:
                    return 4;
                case GIVE:
                case AGREE:
                    return 3;
                case SPEND:
                case MERGE:
                    return 2;
                case MISS:
                case REFUND:
                case PASS:
                    return 1;
                default:
                    return 0;
            }
        }
    }
}
