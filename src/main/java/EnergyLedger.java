/**
 * A ledger for a community that shares energy.
 *
 * <p>All rows are made in constructors and used again, so that a call makes no object beside an
 * exception. Every row is read and written behind a test of its index, so that the machine itself
 * never throws; what a call throws is thrown by the checks at its beginning, before anything changes.
 */
public final class EnergyLedger {
    private static final int MOST_MEMBERS = 6;
    private static final int SLOTS = 48;
    private static final int MOST_SHARE = 100;
    private static final int MOST_RANK = 99;
    private static final int MOST_PRICE = 100;
    private static final int MOST_READING = 5000;
    private static final int MOST_CAPACITY = 20000;
    private static final int MOST_POWER = 5000;
    private static final int MOST_EFFICIENCY = 100;
    private static final int MOST_FEE = 10000;
    private static final int MOST_PAYMENT = 1000000;

    private static final int FIRST_SHARE = 10;
    private static final int FIRST_BUY = 30;
    private static final int FIRST_SELL = 8;
    private static final int FIRST_AMONG = 18;

    private static final int EQUAL = 0;
    private static final int SHARES = 1;
    private static final int ROOM = 2;
    private static final int RANK = 3;
    private static final int RULES = 4;

    private static final int OWN = 0;
    private static final int FROM_MEMBERS = 1;
    private static final int FROM_BATTERY = 2;
    private static final int FROM_GRID = 3;
    private static final int TO_MEMBERS = 4;
    private static final int TO_BATTERY = 5;
    private static final int TO_GRID = 6;
    private static final int MONEY = 7;
    private static final int FLOWS = 8;

    private static final int POT = 0;
    private static final int GRID = 1;
    private static final int BANK = 2;

    // A round fills a member's room or leaves less than one unit a member: some twenty always suffice.
    private static final int MOST_ROUNDS = 1000;

    private static final long DIGEST_START = 199;
    private static final long DIGEST_FACTOR = 31;

    private final Terms now = new Terms();
    private final Slot[] slots = new Slot[SLOTS];
    private final Slot trial = new Slot();
    private final Closing closing = new Closing();
    private final long[] balances = new long[MOST_MEMBERS];
    private final long[] dues = new long[MOST_MEMBERS];
    private int memberCount;
    private int presentSlot;
    private int settledSlots;
    private int correctionCount;
    private int batteryContent;
    private long pot;
    private long grid;
    private long bank;

    /** Creates a ledger without members; no slot is closed. */
    public EnergyLedger() {
        for (int slot = 0; slot < slots.length; slot++) {
            slots[slot] = new Slot();
        }
    }

    // ---- members, battery and prices

    /** Adds a member and returns its number. */
    public int addMember() throws IllegalStateException {
        if (memberCount >= MOST_MEMBERS || presentSlot > 0) {
            throw new IllegalStateException("no more members");
        }
        int member = memberCount;
        put(now.shares, member, FIRST_SHARE);
        put(now.ranks, member, member);
        memberCount++;
        return member;
    }

    /** Sets the share and the rank of a member and returns the share before. */
    public int setMember(int member, int share, int rank)
            throws IndexOutOfBoundsException, IllegalArgumentException {
        checkMember(member);
        checkArgument(share, 0, MOST_SHARE);
        checkArgument(rank, 0, MOST_RANK);
        int before = at(now.shares, member);
        put(now.shares, member, share);
        put(now.ranks, member, rank);
        return before;
    }

    /** Sets the rule of sharing and returns the rule before. */
    public int setRule(int rule) throws IllegalArgumentException {
        checkArgument(rule, 0, RULES - 1);
        int before = now.rule;
        now.rule = rule;
        return before;
    }

    /** Sets the prices and returns the price among members before. */
    public int setPrices(int buy, int sell, int among) throws IllegalArgumentException {
        checkArgument(buy, 0, MOST_PRICE);
        checkArgument(sell, 0, MOST_PRICE);
        checkArgument(among, 0, MOST_PRICE);
        int before = now.among;
        now.buy = buy;
        now.sell = sell;
        now.among = among;
        return before;
    }

    /** Sets the battery and returns how much of its content is gone. */
    public int setBattery(int capacity, int power, int efficiency) throws IllegalArgumentException {
        checkArgument(capacity, 0, MOST_CAPACITY);
        checkArgument(power, 0, MOST_POWER);
        checkArgument(efficiency, 1, MOST_EFFICIENCY);
        now.capacity = capacity;
        now.power = power;
        now.efficiency = efficiency;
        int before = batteryContent;
        batteryContent = Math.min(before, capacity);
        return before - batteryContent;
    }

    /** Returns the content of the battery. */
    public int content() {
        return batteryContent;
    }

    /** Returns the number of members. */
    public int members() {
        return memberCount;
    }

    // ---- readings and slots

    /** Sets a reading of a slot that is not closed and returns whether it is another one than before. */
    public boolean meter(int member, int slot, int generated, int used)
            throws IndexOutOfBoundsException, IllegalArgumentException, IllegalStateException {
        checkMember(member);
        checkSlot(slot);
        checkArgument(generated, 0, MOST_READING);
        checkArgument(used, 0, MOST_READING);
        if (slot < presentSlot) {
            throw new IllegalStateException("the slot is closed");
        }
        return slotAt(slot).setReading(member, generated, used);
    }

    /** Returns what a member used in a slot, or what it generated. */
    public int reading(int member, int slot, boolean isUsed) throws IndexOutOfBoundsException {
        checkMember(member);
        checkSlot(slot);
        Slot asked = slotAt(slot);
        return at(isUsed ? asked.used : asked.generated, member);
    }

    /** Returns the present slot. */
    public int present() {
        return presentSlot;
    }

    /** Closes the present slot and returns how much energy went from member to member in it. */
    public int close() throws IllegalStateException {
        if (presentSlot >= SLOTS || memberCount == 0) {
            throw new IllegalStateException("no slot to close");
        }
        Slot slot = slotAt(presentSlot);
        slot.terms.copy(now);
        slot.contentBefore = batteryContent;
        closing.run(slot);
        book(slot, 1);
        batteryContent = slot.contentAfter;
        presentSlot++;
        return slot.sum(FROM_MEMBERS);
    }

    /** Corrects a reading of a slot that is closed, but not settled; returns the change of the balance. */
    public long correct(int member, int slot, int generated, int used)
            throws IndexOutOfBoundsException, IllegalArgumentException, IllegalStateException {
        checkMember(member);
        checkSlot(slot);
        checkArgument(generated, 0, MOST_READING);
        checkArgument(used, 0, MOST_READING);
        if (slot >= presentSlot || slot < settledSlots) {
            throw new IllegalStateException("the slot is not closed, or it is settled");
        }
        long balanceBefore = at(balances, member);
        Slot corrected = slotAt(slot);
        corrected.setReading(member, generated, used);
        int content = corrected.contentBefore;
        for (int number = slot; number < presentSlot; number++) {
            Slot anew = slotAt(number);
            book(anew, -1);
            anew.contentBefore = Math.min(content, anew.terms.capacity);
            closing.run(anew);
            book(anew, 1);
            content = anew.contentAfter;
        }
        batteryContent = Math.min(content, now.capacity);
        correctionCount++;
        return at(balances, member) - balanceBefore;
    }

    /** Returns one of the amounts of a member in a slot; 0 if the slot is not closed. */
    public int flow(int slot, int member, int what) throws IndexOutOfBoundsException {
        checkSlot(slot);
        checkMember(member);
        checkIndex(what, FLOWS);
        return slot < presentSlot ? slotAt(slot).amount(member, what) : 0;
    }

    /** Returns the content of the battery at the beginning of a slot; -1 if the slot is not closed. */
    public int contentAt(int slot) throws IndexOutOfBoundsException {
        checkSlot(slot);
        return slot < presentSlot ? slotAt(slot).contentBefore : -1;
    }

    /** Tells what a member would get, less what it would pay, if the present slot were closed by a rule. */
    public int would(int member, int rule)
            throws IndexOutOfBoundsException, IllegalArgumentException, IllegalStateException {
        checkMember(member);
        checkArgument(rule, 0, RULES - 1);
        checkSlotIsLeft();
        setTrial(rule);
        closing.run(trial);
        return trial.amount(member, MONEY);
    }

    /** Returns the rule that would be best for a member in the present slot. */
    public int bestRule(int member) throws IndexOutOfBoundsException, IllegalStateException {
        checkMember(member);
        checkSlotIsLeft();
        int best = EQUAL;
        int most = 0;
        for (int rule = EQUAL; rule < RULES; rule++) {
            setTrial(rule);
            closing.run(trial);
            int money = trial.amount(member, MONEY);
            if (rule == EQUAL || money > most) {
                most = money;
                best = rule;
            }
        }
        return best;
    }

    // ---- money

    /** Returns the due of a member, or its balance. */
    public long account(int member, boolean isDue) throws IndexOutOfBoundsException {
        checkMember(member);
        return at(isDue ? dues : balances, member);
    }

    /** Returns the pot, the grid or the bank. */
    public long common(int which) throws IndexOutOfBoundsException {
        checkIndex(which, BANK + 1);
        if (which == POT) {
            return pot;
        }
        return which == GRID ? grid : bank;
    }

    /** Settles all slots that are closed and returns how many of them were not settled before. */
    public int settle(int fee) throws IllegalArgumentException {
        checkArgument(fee, 0, MOST_FEE);
        for (int member = 0; member < memberCount; member++) {
            add(dues, member, at(balances, member) - fee);
            put(balances, member, 0);
            pot += fee;
        }
        int settledNow = presentSlot - settledSlots;
        settledSlots = presentSlot;
        return settledNow;
    }

    /** Adds an amount to the due of a member, takes it from the bank, and returns the due then. */
    public long pay(int member, int amount) throws IndexOutOfBoundsException, IllegalArgumentException {
        checkMember(member);
        checkArgument(amount, -MOST_PAYMENT, MOST_PAYMENT);
        if (amount == 0) {
            throw new IllegalArgumentException("nothing to pay");
        }
        add(dues, member, amount);
        bank -= amount;
        return at(dues, member);
    }

    /** Returns the set of the members whose due is less than minus the limit. */
    public int late(int limit) throws IllegalArgumentException {
        if (limit < 0) {
            throw new IllegalArgumentException("the limit is less than 0");
        }
        int set = 0;
        for (int member = 0; member < memberCount; member++) {
            if (at(dues, member) < -(long) limit) {
                set |= 1 << member;
            }
        }
        return set;
    }

    /** Returns how many corrections there were. */
    public int corrections() {
        return correctionCount;
    }

    /** Returns which part of all that was used in closed slots did not come from the grid. */
    public double independence() {
        int used = 0;
        int fromGrid = 0;
        for (int number = 0; number < presentSlot; number++) {
            Slot slot = slotAt(number);
            used += slot.sumUsed();
            fromGrid += slot.sum(FROM_GRID);
        }
        return used == 0 ? 1.0 : (double) (used - fromGrid) / (double) used;
    }

    /** Computes a checksum. */
    public long digest() {
        long d = DIGEST_START;
        d = mix(d, memberCount);
        d = mix(d, presentSlot);
        d = mix(d, batteryContent);
        d = mix(d, now.rule);
        for (int member = 0; member < memberCount; member++) {
            d = mix(d, at(now.shares, member));
            d = mix(d, at(now.ranks, member));
            d = mix(d, at(balances, member));
            d = mix(d, at(dues, member));
        }
        d = mix(d, pot);
        d = mix(d, grid);
        d = mix(d, bank);
        for (int number = 0; number < presentSlot; number++) {
            d = mixSlot(d, slotAt(number));
        }
        d = mix(d, settledSlots);
        return mix(d, correctionCount);
    }

    private long mixSlot(long before, Slot slot) {
        long d = mix(before, slot.contentBefore);
        for (int member = 0; member < memberCount; member++) {
            d = mix(d, at(slot.generated, member));
            d = mix(d, at(slot.used, member));
            for (int what = 0; what < FLOWS; what++) {
                d = mix(d, slot.amount(member, what));
            }
        }
        return d;
    }

    private static long mix(long d, long x) {
        return d * DIGEST_FACTOR + x;
    }

    /** Makes trial a copy of the present slot, so that it can be closed while the ledger stays as it is. */
    private void setTrial(int rule) {
        trial.copyReadings(slotAt(presentSlot));
        trial.terms.copy(now);
        trial.terms.rule = rule;
        trial.contentBefore = batteryContent;
    }

    /** Books what a slot makes all get and pay; with the sign -1 it is taken back. */
    private void book(Slot slot, int sign) {
        Terms terms = slot.terms;
        for (int member = 0; member < memberCount; member++) {
            add(balances, member, sign * slot.amount(member, MONEY));
        }
        pot += sign * terms.among * (slot.sum(FROM_BATTERY) - slot.sum(TO_BATTERY));
        grid += sign * (terms.buy * slot.sum(FROM_GRID) - terms.sell * slot.sum(TO_GRID));
    }

    /** The slot of a number; trial stands in where there is none, so that no caller meets null. */
    private Slot slotAt(int number) {
        Slot slot = number >= 0 && number < slots.length ? slots[number] : null;
        return slot != null ? slot : trial;
    }

    private void checkMember(int member) throws IndexOutOfBoundsException {
        checkIndex(member, memberCount);
    }

    private static void checkSlot(int slot) throws IndexOutOfBoundsException {
        checkIndex(slot, SLOTS);
    }

    private static void checkIndex(int index, int count) throws IndexOutOfBoundsException {
        if (index < 0 || index >= count) {
            throw new IndexOutOfBoundsException("there is nothing of this number");
        }
    }

    private static void checkArgument(int value, int least, int most) throws IllegalArgumentException {
        if (value < least || value > most) {
            throw new IllegalArgumentException("outside its bounds");
        }
    }

    private void checkSlotIsLeft() throws IllegalStateException {
        if (presentSlot >= SLOTS) {
            throw new IllegalStateException("all slots are closed");
        }
    }

    // ---- rows: outside their bounds they hold 0 and keep nothing

    private static int at(int[] row, int index) {
        return row != null && index >= 0 && index < row.length ? row[index] : 0;
    }

    private static void put(int[] row, int index, int value) {
        if (row != null && index >= 0 && index < row.length) {
            row[index] = value;
        }
    }

    private static long at(long[] row, int index) {
        return row != null && index >= 0 && index < row.length ? row[index] : 0;
    }

    private static void put(long[] row, int index, long value) {
        if (row != null && index >= 0 && index < row.length) {
            row[index] = value;
        }
    }

    private static void add(long[] row, int index, long value) {
        put(row, index, at(row, index) + value);
    }

    /** What holds when a slot is closed; each closed slot keeps its own, for when it is closed anew. */
    private static final class Terms {
        final int[] shares = new int[MOST_MEMBERS];
        final int[] ranks = new int[MOST_MEMBERS];
        int rule = EQUAL;
        int buy = FIRST_BUY;
        int sell = FIRST_SELL;
        int among = FIRST_AMONG;
        int capacity;
        int power;
        int efficiency = MOST_EFFICIENCY;

        void copy(Terms other) {
            for (int member = 0; member < MOST_MEMBERS; member++) {
                put(shares, member, at(other.shares, member));
                put(ranks, member, at(other.ranks, member));
            }
            rule = other.rule;
            buy = other.buy;
            sell = other.sell;
            among = other.among;
            capacity = other.capacity;
            power = other.power;
            efficiency = other.efficiency;
        }
    }

    /** The readings of a slot and, once it is closed, its terms, its contents and its flows. */
    private static final class Slot {
        final Terms terms = new Terms();
        final int[] generated = new int[MOST_MEMBERS];
        final int[] used = new int[MOST_MEMBERS];
        final int[] flows = new int[MOST_MEMBERS * FLOWS];
        int contentBefore;
        int contentAfter;

        boolean setReading(int member, int generatedNow, int usedNow) {
            boolean isOther = at(generated, member) != generatedNow || at(used, member) != usedNow;
            put(generated, member, generatedNow);
            put(used, member, usedNow);
            return isOther;
        }

        void copyReadings(Slot other) {
            for (int member = 0; member < MOST_MEMBERS; member++) {
                setReading(member, at(other.generated, member), at(other.used, member));
            }
        }

        int amount(int member, int what) {
            return at(flows, member * FLOWS + what);
        }

        void setAmount(int member, int what, int amount) {
            put(flows, member * FLOWS + what, amount);
        }

        int sum(int what) {
            int sum = 0;
            for (int member = 0; member < MOST_MEMBERS; member++) {
                sum += amount(member, what);
            }
            return sum;
        }

        int sumUsed() {
            int sum = 0;
            for (int member = 0; member < MOST_MEMBERS; member++) {
                sum += at(used, member);
            }
            return sum;
        }

        int moneyOf(int member) {
            int gave = amount(member, TO_MEMBERS) + amount(member, TO_BATTERY);
            int got = amount(member, FROM_MEMBERS) + amount(member, FROM_BATTERY);
            return terms.among * (gave - got)
                    + terms.sell * amount(member, TO_GRID)
                    - terms.buy * amount(member, FROM_GRID);
        }
    }

    /** Closes slots: makes the flows of a slot out of its readings, its terms and its content. */
    private static final class Closing {
        private final Side surpluses = new Side();
        private final Side needs = new Side();

        void run(Slot slot) {
            useOwn(slot);
            useMembers(slot);
            useBattery(slot);
            useGrid(slot);
        }

        private void useOwn(Slot slot) {
            for (int member = 0; member < MOST_MEMBERS; member++) {
                int generated = at(slot.generated, member);
                int used = at(slot.used, member);
                int own = Math.min(generated, used);
                slot.setAmount(member, OWN, own);
                surpluses.setRoom(member, generated - own);
                needs.setRoom(member, used - own);
            }
        }

        private void useMembers(Slot slot) {
            int amount = Math.min(surpluses.sumOfRooms(), needs.sumOfRooms());
            surpluses.share(amount, ROOM, slot.terms);
            needs.share(amount, slot.terms.rule, slot.terms);
            keepParts(slot, TO_MEMBERS, FROM_MEMBERS);
        }

        /** At most one side has something left here, so that at most one of the two amounts is not 0. */
        private void useBattery(Slot slot) {
            Terms terms = slot.terms;
            int charge = Math.min(surpluses.sumOfRooms(), mostCharge(slot));
            int discharge = Math.min(needs.sumOfRooms(), Math.min(terms.power, slot.contentBefore));
            surpluses.share(charge, ROOM, terms);
            needs.share(discharge, terms.rule, terms);
            keepParts(slot, TO_BATTERY, FROM_BATTERY);
            slot.contentAfter = slot.contentBefore + charge * terms.efficiency / 100 - discharge;
        }

        /** The cut of the division lets 99 hundredths of a unit pass beyond the free content. */
        private static int mostCharge(Slot slot) {
            int efficiency = slot.terms.efficiency;
            if (efficiency <= 0) {
                return 0;
            }
            int free = slot.terms.capacity - slot.contentBefore;
            return Math.min(slot.terms.power, (free * 100 + 99) / efficiency);
        }

        private void useGrid(Slot slot) {
            for (int member = 0; member < MOST_MEMBERS; member++) {
                slot.setAmount(member, TO_GRID, surpluses.room(member));
                slot.setAmount(member, FROM_GRID, needs.room(member));
                slot.setAmount(member, MONEY, slot.moneyOf(member));
            }
        }

        private void keepParts(Slot slot, int given, int got) {
            for (int member = 0; member < MOST_MEMBERS; member++) {
                slot.setAmount(member, given, surpluses.part(member));
                slot.setAmount(member, got, needs.part(member));
            }
        }
    }

    /** One side of a slot, its surpluses or its needs: the room of each member, and its part of a sharing. */
    private static final class Side {
        private final int[] rooms = new int[MOST_MEMBERS];
        private final int[] parts = new int[MOST_MEMBERS];
        private int left;

        int room(int member) {
            return at(rooms, member);
        }

        void setRoom(int member, int room) {
            put(rooms, member, room);
        }

        int part(int member) {
            return at(parts, member);
        }

        int sumOfRooms() {
            int sum = 0;
            for (int member = 0; member < MOST_MEMBERS; member++) {
                sum += at(rooms, member);
            }
            return sum;
        }

        /** Shares an amount among the rooms by a rule; each part is taken from its room. */
        void share(int amount, int rule, Terms terms) {
            for (int member = 0; member < MOST_MEMBERS; member++) {
                put(parts, member, 0);
            }
            left = amount;
            switch (rule) {
                case SHARES:
                    shareByShares(terms.shares);
                    shareEqually();
                    break;
                case ROOM:
                    shareByRoom();
                    break;
                case RANK:
                    shareByRank(terms.ranks);
                    break;
                default:
                    shareEqually();
                    break;
            }
        }

        private void shareEqually() {
            for (int round = 0; left > 0 && round < MOST_ROUNDS; round++) {
                int sharers = countSharers();
                if (sharers <= 0) {
                    return;
                }
                giveEach(Math.max(1, left / sharers));
            }
        }

        private void shareByShares(int[] shares) {
            for (int round = 0; left > 0 && round < MOST_ROUNDS; round++) {
                int sum = sumOfShares(shares);
                if (sum <= 0) {
                    return;
                }
                int leftBefore = left;
                for (int member = 0; member < MOST_MEMBERS; member++) {
                    give(member, leftBefore * at(shares, member) / sum);
                }
                if (left == leftBefore) {
                    giveOneByShares(shares);
                }
            }
        }

        /** The divisions cut off less than 1 for each member that has room left, so that one more each suffices. */
        private void shareByRoom() {
            int amount = left;
            int sum = sumOfRooms();
            if (sum <= 0) {
                return;
            }
            for (int member = 0; member < MOST_MEMBERS; member++) {
                give(member, amount * at(rooms, member) / sum);
            }
            giveEach(1);
        }

        private void shareByRank(int[] ranks) {
            int place = -1;
            for (int turn = 0; turn < MOST_MEMBERS; turn++) {
                place = nextPlace(ranks, place);
                give(place % MOST_MEMBERS, left);
            }
        }

        /** A place stands for a rank and a number together, so that no two members have the same one. */
        private static int nextPlace(int[] ranks, int last) {
            int next = (MOST_RANK + 1) * MOST_MEMBERS;
            for (int member = 0; member < MOST_MEMBERS; member++) {
                int place = at(ranks, member) * MOST_MEMBERS + member;
                if (place > last && place < next) {
                    next = place;
                }
            }
            return next;
        }

        private int countSharers() {
            int sharers = 0;
            for (int member = 0; member < MOST_MEMBERS; member++) {
                if (at(rooms, member) > 0) {
                    sharers++;
                }
            }
            return sharers;
        }

        private int sumOfShares(int[] shares) {
            int sum = 0;
            for (int member = 0; member < MOST_MEMBERS; member++) {
                if (at(rooms, member) > 0) {
                    sum += at(shares, member);
                }
            }
            return sum;
        }

        private void giveEach(int amount) {
            for (int member = 0; member < MOST_MEMBERS; member++) {
                give(member, amount);
            }
        }

        private void giveOneByShares(int[] shares) {
            for (int member = 0; member < MOST_MEMBERS; member++) {
                if (at(shares, member) > 0) {
                    give(member, 1);
                }
            }
        }

        /** Gives a member an amount, but not more than it has room for, and not more than is left. */
        private void give(int member, int amount) {
            if (member < 0 || member >= rooms.length || member >= parts.length) {
                return;
            }
            int part = Math.min(amount, Math.min(rooms[member], left));
            rooms[member] -= part;
            parts[member] += part;
            left -= part;
        }
    }
}
