/**
 * An ad exchange: campaigns bid for the slots of requests, are paced over the day, and get credit for conversions.
 */
public final class AdMarketplace {
    /** There is no such thing. */
    public static final int NONE = -1;
    /** The buffer is full. */
    public static final int FULL = -2;
    /** The text is not legal. */
    public static final int BAD_TEXT = -3;

    private static final int TEXT_LIMIT = 600;
    private static final int FEED_BYTES = 20;
    private static final int TAG_LIMIT = 6;
    private static final int CAMPAIGN_LIMIT = 8;
    private static final int APART_LIMIT = 8;
    private static final int FACTOR_LIMIT = 4;
    private static final int USERS = 16;
    private static final int GREATEST_BID = 999;
    private static final int GREATEST_FLOOR = 999;
    private static final int GREATEST_BUDGET = 9999;
    private static final int GREATEST_VALUE = 9999;
    private static final int LAST_TICK = 9999;
    private static final int GREATEST_PASS = 200;
    private static final int IMPRESSION_LIMIT = 160;
    private static final int CONVERSION_LIMIT = 40;
    private static final int EDIT_LIMIT = 8;
    private static final int FORECAST_LIMIT = 60;

    private static final int FAST = 0;
    private static final int EVEN = 1;
    private static final int STRICT = 2;
    private static final int MODEL_LAST = 0;
    private static final int MODEL_FIRST = 1;
    private static final int MODEL_EVEN = 2;

    private final Parser parser;
    private final Exchange exchange;
    private final Standing beforeTrial;
    private final Conversions converted;
    private final History history;
    private final StringBuilder output;

    /** Creates an exchange as an empty text defines it, and an empty buffer. */
    public AdMarketplace() {
        parser = new Parser();
        exchange = new Exchange();
        beforeTrial = new Standing();
        converted = new Conversions();
        history = new History();
        output = new StringBuilder();
    }

    // ---- text

    public int feed(int a, int b, int c, int d, int e) {
        Tokens buffer = parser.tokens;
        if (buffer.held + FEED_BYTES > TEXT_LIMIT) {
            return FULL;
        }
        buffer.append(a);
        buffer.append(b);
        buffer.append(c);
        buffer.append(d);
        buffer.append(e);
        return buffer.held;
    }

    public int load(int length) throws IllegalArgumentException {
        requireRange(length, 0, parser.tokens.held);
        parser.tokens.held = 0;
        if (!parser.read(length)) {
            return BAD_TEXT;
        }
        parser.draft = exchange.open(parser.draft);
        history.forget();
        return exchange.rules.campaignCount;
    }

    public int errorKind() {
        return parser.failure;
    }

    public int errorPosition() {
        return parser.failedAt;
    }

    // ---- campaigns, tags

    public int campaigns() {
        return exchange.rules.campaignCount;
    }

    public int tags() {
        return exchange.rules.tagCount;
    }

    public int slots() {
        return exchange.rules.factorCount;
    }

    public int floor(int tag) throws IndexOutOfBoundsException {
        requireTag(tag);
        return exchange.now.floors[tag];
    }

    public int bid(int campaign) throws IndexOutOfBoundsException {
        requireCampaign(campaign);
        return exchange.now.bids[campaign];
    }

    public int effectiveBid(int campaign) throws IndexOutOfBoundsException {
        requireCampaign(campaign);
        return exchange.pacedBid(campaign);
    }

    public int multiplier(int campaign) throws IndexOutOfBoundsException {
        requireCampaign(campaign);
        return exchange.now.multipliers[campaign];
    }

    public int budget(int campaign) throws IndexOutOfBoundsException {
        requireCampaign(campaign);
        return exchange.now.budgets[campaign];
    }

    public int spent(int campaign) throws IndexOutOfBoundsException {
        requireCampaign(campaign);
        return exchange.now.spendings[campaign];
    }

    public int plan(int campaign) throws IndexOutOfBoundsException {
        requireCampaign(campaign);
        return exchange.planned(campaign);
    }

    public int mode(int campaign) throws IndexOutOfBoundsException {
        requireCampaign(campaign);
        return exchange.now.modes[campaign];
    }

    public int tick() {
        return exchange.now.present;
    }

    // ---- auctions; nothing changes

    public int refusal(int campaign, int user, int tag) throws IndexOutOfBoundsException, IllegalArgumentException {
        requireCampaign(campaign);
        requireTag(tag);
        requireUser(user);
        exchange.countRecents(user);
        return exchange.reasonAgainst(campaign, tag, exchange.pacedBid(campaign), exchange.now.floors[tag]);
    }

    public int ranked(int user, int tag, int place) throws IndexOutOfBoundsException, IllegalArgumentException {
        requireTag(tag);
        requireUser(user);
        if (place < 0) {
            throw new IllegalArgumentException("negative place");
        }
        exchange.rank(user, tag, exchange.now.floors[tag]);
        return place < exchange.contenders ? exchange.order[place] : NONE;
    }

    public int winner(int user, int tag, int slot) throws IndexOutOfBoundsException, IllegalArgumentException {
        requireTag(tag);
        requireUser(user);
        requireSlot(slot);
        exchange.rank(user, tag, exchange.now.floors[tag]);
        exchange.fill(slot + 1, exchange.now.floors[tag]);
        return slot < exchange.filled ? exchange.winners[slot] : NONE;
    }

    public int price(int user, int tag, int slot) throws IndexOutOfBoundsException, IllegalArgumentException {
        requireTag(tag);
        requireUser(user);
        requireSlot(slot);
        exchange.rank(user, tag, exchange.now.floors[tag]);
        exchange.fill(slot + 1, exchange.now.floors[tag]);
        return slot < exchange.filled ? exchange.prices[slot] : NONE;
    }

    public int leastBid(int campaign, int user, int tag, int slots)
            throws IndexOutOfBoundsException, IllegalArgumentException {
        requireCampaign(campaign);
        requireTag(tag);
        requireUser(user);
        requireSlots(slots);
        return exchange.leastWinningBid(campaign, user, tag, slots);
    }

    public int bestFloor(int user, int tag, int slots) throws IndexOutOfBoundsException, IllegalArgumentException {
        requireTag(tag);
        requireUser(user);
        requireSlots(slots);
        return exchange.mostEarningFloor(user, tag, slots);
    }

    public int revenueAfter(int tag, int slots, int ticks) throws IndexOutOfBoundsException, IllegalArgumentException {
        requireTag(tag);
        requireSlots(slots);
        requireRange(ticks, 1, FORECAST_LIMIT);
        beforeTrial.copy(exchange.now);
        tryAhead(tag, slots, ticks);
        int sum = exchange.shown.priceSum(beforeTrial.shownCount, exchange.now.shownCount);
        exchange.now.copy(beforeTrial);
        return sum;
    }

    public int multiplierAfter(int campaign, int tag, int slots, int ticks)
            throws IndexOutOfBoundsException, IllegalArgumentException {
        requireCampaign(campaign);
        requireTag(tag);
        requireSlots(slots);
        requireRange(ticks, 1, FORECAST_LIMIT);
        beforeTrial.copy(exchange.now);
        tryAhead(tag, slots, ticks);
        int rate = exchange.now.multipliers[campaign];
        exchange.now.copy(beforeTrial);
        return rate;
    }

    public int bestMode(int campaign, int tag, int slots, int ticks)
            throws IndexOutOfBoundsException, IllegalArgumentException {
        requireCampaign(campaign);
        requireTag(tag);
        requireSlots(slots);
        requireRange(ticks, 1, FORECAST_LIMIT);
        int best = FAST;
        int most = -1;
        for (int mode = FAST; mode <= STRICT; mode++) {
            beforeTrial.copy(exchange.now);
            exchange.now.changeMode(campaign, mode);
            tryAhead(tag, slots, ticks);
            int count = exchange.shown.countOf(campaign, beforeTrial.shownCount, exchange.now.shownCount);
            exchange.now.copy(beforeTrial);
            if (count > most) {
                best = mode;
                most = count;
            }
        }
        return best;
    }

    /** Works on the exchange itself: the caller puts the standing before the trial back. */
    private void tryAhead(int tag, int slots, int ticks) {
        for (int i = 0; i < ticks; i++) {
            exchange.serve(i % USERS, tag, slots);
            exchange.passTick();
        }
    }

    // ---- edits

    public int request(int user, int tag, int slots)
            throws IndexOutOfBoundsException, IllegalArgumentException, IllegalStateException {
        requireTag(tag);
        requireUser(user);
        requireSlots(slots);
        if (exchange.now.shownCount + slots > IMPRESSION_LIMIT) {
            throw new IllegalStateException("too many impressions");
        }
        history.remember(exchange.now);
        return exchange.serve(user, tag, slots);
    }

    public int pass(int ticks) throws IllegalArgumentException, IllegalStateException {
        requireRange(ticks, 1, GREATEST_PASS);
        if (exchange.now.present + ticks > LAST_TICK) {
            throw new IllegalStateException("too many ticks");
        }
        history.remember(exchange.now);
        for (int i = 0; i < ticks; i++) {
            exchange.passTick();
        }
        return exchange.now.present;
    }

    public int convert(int user, int value) throws IllegalArgumentException, IllegalStateException {
        requireUser(user);
        requireRange(value, 1, GREATEST_VALUE);
        int at = exchange.now.convertedCount;
        if (at >= CONVERSION_LIMIT) {
            throw new IllegalStateException("too many conversions");
        }
        history.remember(exchange.now);
        exchange.now.convertedCount++;
        converted.begin(at, value);
        attribute(at, user);
        return converted.lasts[at];
    }

    private void attribute(int at, int user) {
        Impressions shown = exchange.shown;
        int earliest = exchange.now.present - exchange.rules.attributionTicks;
        for (int i = 0; i < exchange.now.shownCount; i++) {
            if (shown.users[i] == user && shown.ticks[i] >= earliest) {
                converted.share(at, shown.campaigns[i]);
            }
        }
    }

    public int pause(int campaign) throws IndexOutOfBoundsException, IllegalStateException {
        requireCampaign(campaign);
        if (exchange.now.paused[campaign]) {
            throw new IllegalStateException("paused already");
        }
        history.remember(exchange.now);
        exchange.now.paused[campaign] = true;
        return exchange.moneyLeft(campaign);
    }

    public int resume(int campaign) throws IndexOutOfBoundsException, IllegalStateException {
        requireCampaign(campaign);
        if (!exchange.now.paused[campaign]) {
            throw new IllegalStateException("not paused");
        }
        history.remember(exchange.now);
        exchange.now.paused[campaign] = false;
        return exchange.moneyLeft(campaign);
    }

    public int setBid(int campaign, int bid) throws IndexOutOfBoundsException, IllegalArgumentException {
        requireCampaign(campaign);
        requireRange(bid, 1, GREATEST_BID);
        history.remember(exchange.now);
        int previous = exchange.now.bids[campaign];
        exchange.now.bids[campaign] = bid;
        return previous;
    }

    public int setBudget(int campaign, int budget)
            throws IndexOutOfBoundsException, IllegalArgumentException, IllegalStateException {
        requireCampaign(campaign);
        requireRange(budget, 1, GREATEST_BUDGET);
        if (exchange.now.spendings[campaign] > budget) {
            throw new IllegalStateException("more is spent already");
        }
        history.remember(exchange.now);
        int previous = exchange.now.budgets[campaign];
        exchange.now.budgets[campaign] = budget;
        return previous;
    }

    public int setMode(int campaign, int mode) throws IndexOutOfBoundsException, IllegalArgumentException {
        requireCampaign(campaign);
        requireRange(mode, FAST, STRICT);
        history.remember(exchange.now);
        int previous = exchange.now.modes[campaign];
        exchange.now.changeMode(campaign, mode);
        return previous;
    }

    public int setFloor(int tag, int floor) throws IndexOutOfBoundsException, IllegalArgumentException {
        requireTag(tag);
        requireRange(floor, 0, GREATEST_FLOOR);
        history.remember(exchange.now);
        int previous = exchange.now.floors[tag];
        exchange.now.floors[tag] = floor;
        return previous;
    }

    public int undo() {
        if (history.count == 0) {
            return NONE;
        }
        history.restore(exchange.now);
        return history.count;
    }

    // ---- impressions, conversions

    public int impressions() {
        return exchange.now.shownCount;
    }

    public int impression(int impression, int what) throws IndexOutOfBoundsException, IllegalArgumentException {
        if (impression < 0 || impression >= exchange.now.shownCount) {
            throw new IndexOutOfBoundsException("no such impression");
        }
        requireRange(what, 0, 4);
        return exchange.shown.part(impression, what);
    }

    public int revenue() {
        return exchange.shown.priceSum(0, exchange.now.shownCount);
    }

    public int reach(int campaign) throws IndexOutOfBoundsException {
        requireCampaign(campaign);
        return exchange.shown.usersReached(campaign, exchange.now.shownCount);
    }

    public double frequency(int campaign) throws IndexOutOfBoundsException {
        requireCampaign(campaign);
        int end = exchange.now.shownCount;
        return quotient(exchange.shown.countOf(campaign, 0, end), exchange.shown.usersReached(campaign, end));
    }

    public int recent(int campaign, int user) throws IndexOutOfBoundsException, IllegalArgumentException {
        requireCampaign(campaign);
        requireUser(user);
        exchange.countRecents(user);
        return exchange.recents[campaign];
    }

    public int topUser() {
        int top = NONE;
        int most = 0;
        for (int user = 0; user < USERS; user++) {
            int count = exchange.shown.countTo(user, exchange.now.shownCount);
            if (count > most) {
                top = user;
                most = count;
            }
        }
        return top;
    }

    public double meanPrice(int slot) throws IllegalArgumentException {
        requireSlot(slot);
        Impressions shown = exchange.shown;
        int sum = 0;
        int count = 0;
        for (int i = 0; i < exchange.now.shownCount; i++) {
            if (shown.slots[i] == slot) {
                sum += shown.prices[i];
                count++;
            }
        }
        return quotient(sum, count);
    }

    public int conversions() {
        return exchange.now.convertedCount;
    }

    public double credit(int campaign, int model) throws IndexOutOfBoundsException, IllegalArgumentException {
        requireCampaign(campaign);
        requireRange(model, MODEL_LAST, MODEL_EVEN);
        double sum = 0.0;
        for (int i = 0; i < exchange.now.convertedCount; i++) {
            sum = sum + converted.creditOf(i, campaign, model);
        }
        return sum;
    }

    public int unattributed() {
        int sum = 0;
        for (int i = 0; i < exchange.now.convertedCount; i++) {
            if (converted.totals[i] == 0) {
                sum += converted.values[i];
            }
        }
        return sum;
    }

    // ---- output

    public int write(int campaign) throws IndexOutOfBoundsException {
        requireCampaign(campaign);
        Standing now = exchange.now;
        output.setLength(0);
        output.append(exchange.rules.campaigns[campaign].name).append(' ').append(modeWord(now.modes[campaign]));
        output.append(": ").append(now.spendings[campaign]).append('/').append(now.budgets[campaign]);
        output.append(" at ").append(exchange.pacedBid(campaign));
        if (now.paused[campaign]) {
            output.append(" paused");
        }
        int users = exchange.shown.usersReached(campaign, now.shownCount);
        if (users > 0) {
            output.append(", seen by ").append(users);
        }
        return output.length();
    }

    public char written(int k) throws IndexOutOfBoundsException {
        if (k < 0 || k >= output.length()) {
            throw new IndexOutOfBoundsException("no such character");
        }
        return output.charAt(k);
    }

    private static String modeWord(int mode) {
        if (mode == FAST) {
            return "fast";
        }
        return mode == EVEN ? "even" : "strict";
    }

    private static double quotient(int sum, int count) {
        return count == 0 ? 0.0 : (double) sum / count;
    }

    private void requireCampaign(int campaign) {
        if (campaign < 0 || campaign >= exchange.rules.campaignCount) {
            throw new IndexOutOfBoundsException("no such campaign");
        }
    }

    private void requireTag(int tag) {
        if (tag < 0 || tag >= exchange.rules.tagCount) {
            throw new IndexOutOfBoundsException("no such tag");
        }
    }

    private void requireSlot(int slot) {
        requireRange(slot, 0, exchange.rules.factorCount - 1);
    }

    private void requireSlots(int slots) {
        requireRange(slots, 1, exchange.rules.factorCount);
    }

    private static void requireUser(int user) {
        requireRange(user, 0, USERS - 1);
    }

    private static void requireRange(int value, int least, int greatest) {
        if (value < least || value > greatest) {
            throw new IllegalArgumentException("out of range");
        }
    }

    /** A tag as the text defines it. */
    private static final class Tag {
        String name = "";
        int floor;
    }

    /** A campaign as the text defines it. */
    private static final class Campaign {
        String name = "";
        int bid;
        int budget;
        int cap;
        int window;
        int target;
        int mode;
        /** One bit for each campaign that must not be shown together with this one. */
        int apart;
    }

    /** All that a text defines; it never changes between two loads. */
    private static final class Rules {
        int dayTicks;
        int attributionTicks;
        final int[] factors;
        int factorCount;
        final Tag[] tags;
        int tagCount;
        final Campaign[] campaigns;
        int campaignCount;
        int apartCount;

        Rules() {
            factors = new int[FACTOR_LIMIT];
            tags = new Tag[TAG_LIMIT];
            for (int i = 0; i < TAG_LIMIT; i++) {
                tags[i] = new Tag();
            }
            campaigns = new Campaign[CAMPAIGN_LIMIT];
            for (int i = 0; i < CAMPAIGN_LIMIT; i++) {
                campaigns[i] = new Campaign();
            }
            clear();
        }

        void clear() {
            dayTicks = 100;
            attributionTicks = 50;
            factors[0] = 100;
            factorCount = 1;
            tagCount = 0;
            campaignCount = 0;
            apartCount = 0;
        }
    }

    /** The buffer, and the tokens of its first bytes, one at a time. */
    private static final class Tokens {
        static final int END = 0;
        static final int WORD = 1;
        static final int NUMBER = 2;
        static final int SEMICOLON = 3;
        static final int ILLEGAL = 4;
        private static final int WORD_LIMIT = 10;
        private static final int NUMBER_LIMIT = 4;

        private final char[] text = new char[TEXT_LIMIT];
        int held;
        private int length;
        private int end;
        int sort;
        int start;
        int number;

        void append(int fourBytes) {
            for (int shift = 24; shift >= 0 && held < TEXT_LIMIT; shift -= 8) {
                text[held] = (char) ((fourBytes >>> shift) & 255);
                held++;
            }
        }

        void begin(int textLength) {
            length = Math.min(textLength, TEXT_LIMIT);
            end = 0;
            advance();
        }

        void advance() {
            start = end;
            while (start < length && (text[start] == ' ' || text[start] == '\n')) {
                start++;
            }
            int wordEnd = runEnd('a', 'z');
            int numberEnd = runEnd('0', '9');
            if (start >= length) {
                sort = END;
                end = start;
            } else if (wordEnd > start) {
                sort = wordEnd - start <= WORD_LIMIT ? WORD : ILLEGAL;
                end = wordEnd;
            } else if (numberEnd > start) {
                sort = numberEnd - start <= NUMBER_LIMIT ? NUMBER : ILLEGAL;
                end = numberEnd;
            } else {
                sort = text[start] == ';' ? SEMICOLON : ILLEGAL;
                end = start + 1;
            }
            if (sort == NUMBER) {
                evaluate();
            }
        }

        private int runEnd(char least, char greatest) {
            int i = start;
            while (i < length && text[i] >= least && text[i] <= greatest) {
                i++;
            }
            return i;
        }

        private void evaluate() {
            number = 0;
            for (int i = start; i < end; i++) {
                number = number * 10 + (text[i] - '0');
            }
        }

        boolean spells(String word) {
            if (sort != WORD || word.length() != end - start) {
                return false;
            }
            for (int i = 0; i < word.length(); i++) {
                if (word.charAt(i) != text[start + i]) {
                    return false;
                }
            }
            return true;
        }

        String letters() {
            char[] copy = new char[end > start ? end - start : 0];
            for (int i = 0; i < copy.length; i++) {
                copy[i] = text[start + i];
            }
            return new String(copy);
        }
    }

    /** Reads a text into a draft, and stops at its first error. */
    private static final class Parser {
        private static final int ILLEGAL_TOKEN = 1;
        private static final int UNEXPECTED = 2;
        private static final int OUT_OF_RANGE = 3;
        private static final int WRONG_NAME = 4;
        private static final int TOO_MANY = 5;
        private static final int GREATEST_TICKS = 999;
        private static final int GREATEST_FACTOR = 100;
        private static final int GREATEST_CAP = 9;

        final Tokens tokens;
        private int value;
        private int found;
        Rules draft;
        int failure;
        int failedAt;

        Parser() {
            tokens = new Tokens();
            draft = new Rules();
            failure = 0;
            failedAt = NONE;
        }

        boolean read(int length) {
            failure = 0;
            failedAt = NONE;
            draft.clear();
            tokens.begin(length);
            // Every statement takes at least one byte, so no text has more statements than bytes.
            for (int i = 0; i < length && tokens.sort != Tokens.END; i++) {
                if (!statement()) {
                    return false;
                }
            }
            return true;
        }

        private boolean statement() {
            if (tokens.spells("day")) {
                return day();
            }
            if (tokens.spells("attribute")) {
                return attribution();
            }
            if (tokens.spells("slots")) {
                return factors();
            }
            if (tokens.spells("tag")) {
                return newTag();
            }
            if (tokens.spells("campaign")) {
                return newCampaign();
            }
            if (tokens.spells("pace")) {
                return pace();
            }
            if (tokens.spells("apart")) {
                return apart();
            }
            return unexpected();
        }

        private boolean day() {
            tokens.advance();
            if (!takeNumber(1, GREATEST_TICKS)) {
                return false;
            }
            draft.dayTicks = value;
            return takeSemicolon();
        }

        private boolean attribution() {
            tokens.advance();
            if (!takeNumber(1, GREATEST_TICKS)) {
                return false;
            }
            draft.attributionTicks = value;
            return takeSemicolon();
        }

        private boolean factors() {
            tokens.advance();
            int greatest = GREATEST_FACTOR;
            for (int i = 0; i < FACTOR_LIMIT; i++) {
                if (i > 0 && tokens.sort == Tokens.SEMICOLON) {
                    break;
                }
                if (!takeNumber(1, greatest)) {
                    return false;
                }
                draft.factors[i] = value;
                draft.factorCount = i + 1;
                greatest = value;
            }
            if (tokens.sort == Tokens.NUMBER) {
                return fail(isWithin(1, greatest) ? TOO_MANY : OUT_OF_RANGE);
            }
            return takeSemicolon();
        }

        private boolean newTag() {
            if (draft.tagCount >= TAG_LIMIT) {
                return fail(TOO_MANY);
            }
            tokens.advance();
            Tag tag = draft.tags[draft.tagCount];
            if (!isNewName(findTag())) {
                return false;
            }
            tag.name = tokens.letters();
            tokens.advance();
            if (!takeNumber(0, GREATEST_FLOOR)) {
                return false;
            }
            tag.floor = value;
            draft.tagCount++;
            return takeSemicolon();
        }

        private boolean newCampaign() {
            if (draft.campaignCount >= CAMPAIGN_LIMIT) {
                return fail(TOO_MANY);
            }
            tokens.advance();
            Campaign campaign = draft.campaigns[draft.campaignCount];
            if (!isNewName(findCampaign())) {
                return false;
            }
            campaign.name = tokens.letters();
            tokens.advance();
            if (!takeNumber(1, GREATEST_BID)) {
                return false;
            }
            campaign.bid = value;
            if (!takeNumber(1, GREATEST_BUDGET)) {
                return false;
            }
            campaign.budget = value;
            if (!takeNumber(1, GREATEST_CAP)) {
                return false;
            }
            campaign.cap = value;
            if (!takeNumber(1, GREATEST_TICKS)) {
                return false;
            }
            campaign.window = value;
            if (!takeTarget()) {
                return false;
            }
            campaign.target = found;
            campaign.mode = FAST;
            campaign.apart = 0;
            draft.campaignCount++;
            return takeSemicolon();
        }

        private boolean takeTarget() {
            if (tokens.sort != Tokens.WORD) {
                return unexpected();
            }
            found = findTag();
            if (found == NONE && !tokens.spells("any")) {
                return fail(WRONG_NAME);
            }
            tokens.advance();
            return true;
        }

        private boolean pace() {
            tokens.advance();
            if (!isCampaign()) {
                return false;
            }
            tokens.advance();
            Campaign campaign = draft.campaigns[found];
            if (tokens.spells("fast")) {
                campaign.mode = FAST;
            } else if (tokens.spells("even")) {
                campaign.mode = EVEN;
            } else if (tokens.spells("strict")) {
                campaign.mode = STRICT;
            } else {
                return unexpected();
            }
            tokens.advance();
            return takeSemicolon();
        }

        private boolean apart() {
            if (draft.apartCount >= APART_LIMIT) {
                return fail(TOO_MANY);
            }
            tokens.advance();
            if (!isCampaign()) {
                return false;
            }
            int first = found;
            tokens.advance();
            if (!isCampaign()) {
                return false;
            }
            if (found == first) {
                return fail(WRONG_NAME);
            }
            tokens.advance();
            draft.campaigns[first].apart |= 1 << found;
            draft.campaigns[found].apart |= 1 << first;
            draft.apartCount++;
            return takeSemicolon();
        }

        private boolean isNewName(int bearer) {
            if (tokens.sort != Tokens.WORD || tokens.spells("any")) {
                return unexpected();
            }
            return bearer == NONE || fail(WRONG_NAME);
        }

        /** Leaves the number of the campaign that the token names in found. */
        private boolean isCampaign() {
            if (tokens.sort != Tokens.WORD || tokens.spells("any")) {
                return unexpected();
            }
            found = findCampaign();
            return found != NONE || fail(WRONG_NAME);
        }

        private int findTag() {
            for (int i = 0; i < draft.tagCount; i++) {
                if (tokens.spells(draft.tags[i].name)) {
                    return i;
                }
            }
            return NONE;
        }

        private int findCampaign() {
            for (int i = 0; i < draft.campaignCount; i++) {
                if (tokens.spells(draft.campaigns[i].name)) {
                    return i;
                }
            }
            return NONE;
        }

        private boolean takeNumber(int least, int greatest) {
            if (tokens.sort != Tokens.NUMBER) {
                return unexpected();
            }
            if (!isWithin(least, greatest)) {
                return fail(OUT_OF_RANGE);
            }
            value = tokens.number;
            tokens.advance();
            return true;
        }

        private boolean isWithin(int least, int greatest) {
            return tokens.number >= least && tokens.number <= greatest;
        }

        private boolean takeSemicolon() {
            if (tokens.sort != Tokens.SEMICOLON) {
                return unexpected();
            }
            tokens.advance();
            return true;
        }

        private boolean unexpected() {
            return fail(tokens.sort == Tokens.ILLEGAL ? ILLEGAL_TOKEN : UNEXPECTED);
        }

        private boolean fail(int kind) {
            failure = kind;
            failedAt = tokens.start;
            return false;
        }
    }

    /**
     * All that edits change. The rows of impressions and conversions only grow behind these counts,
     * so putting an earlier standing back also takes back what was recorded since.
     */
    private static final class Standing {
        int present;
        int dayTicksPassed;
        int shownCount;
        int convertedCount;
        final int[] floors = new int[TAG_LIMIT];
        final int[] bids = new int[CAMPAIGN_LIMIT];
        final int[] budgets = new int[CAMPAIGN_LIMIT];
        final int[] modes = new int[CAMPAIGN_LIMIT];
        final int[] spendings = new int[CAMPAIGN_LIMIT];
        final int[] multipliers = new int[CAMPAIGN_LIMIT];
        final boolean[] paused = new boolean[CAMPAIGN_LIMIT];

        void begin(Rules rules) {
            present = 0;
            shownCount = 0;
            convertedCount = 0;
            for (int i = 0; i < rules.tagCount; i++) {
                floors[i] = rules.tags[i].floor;
            }
            for (int i = 0; i < rules.campaignCount; i++) {
                Campaign campaign = rules.campaigns[i];
                bids[i] = campaign.bid;
                budgets[i] = campaign.budget;
                modes[i] = campaign.mode;
                paused[i] = false;
            }
            beginDay();
        }

        void beginDay() {
            dayTicksPassed = 0;
            for (int i = 0; i < CAMPAIGN_LIMIT; i++) {
                spendings[i] = 0;
                multipliers[i] = 100;
            }
        }

        void changeMode(int campaign, int mode) {
            modes[campaign] = mode;
            multipliers[campaign] = 100;
        }

        void copy(Standing other) {
            present = other.present;
            dayTicksPassed = other.dayTicksPassed;
            shownCount = other.shownCount;
            convertedCount = other.convertedCount;
            System.arraycopy(other.floors, 0, floors, 0, TAG_LIMIT);
            System.arraycopy(other.bids, 0, bids, 0, CAMPAIGN_LIMIT);
            System.arraycopy(other.budgets, 0, budgets, 0, CAMPAIGN_LIMIT);
            System.arraycopy(other.modes, 0, modes, 0, CAMPAIGN_LIMIT);
            System.arraycopy(other.spendings, 0, spendings, 0, CAMPAIGN_LIMIT);
            System.arraycopy(other.multipliers, 0, multipliers, 0, CAMPAIGN_LIMIT);
            System.arraycopy(other.paused, 0, paused, 0, CAMPAIGN_LIMIT);
        }
    }

    /** The standings before the latest edits, in a ring. */
    private static final class History {
        private final Standing[] ring;
        private int latest;
        int count;

        History() {
            ring = new Standing[EDIT_LIMIT];
            for (int i = 0; i < EDIT_LIMIT; i++) {
                ring[i] = new Standing();
            }
            latest = 0;
            count = 0;
        }

        void remember(Standing now) {
            latest = (latest + 1) % EDIT_LIMIT;
            ring[latest].copy(now);
            count = Math.min(count + 1, EDIT_LIMIT);
        }

        void restore(Standing now) {
            now.copy(ring[latest]);
            latest = (latest + EDIT_LIMIT - 1) % EDIT_LIMIT;
            count--;
        }

        void forget() {
            count = 0;
        }
    }

    /** The impressions in the order of recording; how many of them count, the standing tells. */
    private static final class Impressions {
        /** A forecast goes beyond the limit of the recorded ones. */
        private static final int ROOM = IMPRESSION_LIMIT + FORECAST_LIMIT * FACTOR_LIMIT;

        final int[] ticks = new int[ROOM];
        final int[] users = new int[ROOM];
        final int[] campaigns = new int[ROOM];
        final int[] slots = new int[ROOM];
        final int[] prices = new int[ROOM];

        int part(int at, int what) {
            switch (what) {
                case 0:
                    return ticks[at];
                case 1:
                    return users[at];
                case 2:
                    return campaigns[at];
                case 3:
                    return slots[at];
                default:
                    return prices[at];
            }
        }

        int priceSum(int begin, int end) {
            int sum = 0;
            for (int i = begin; i < end; i++) {
                sum += prices[i];
            }
            return sum;
        }

        int countOf(int campaign, int begin, int end) {
            int count = 0;
            for (int i = begin; i < end; i++) {
                if (campaigns[i] == campaign) {
                    count++;
                }
            }
            return count;
        }

        int countTo(int user, int end) {
            int count = 0;
            for (int i = 0; i < end; i++) {
                if (users[i] == user) {
                    count++;
                }
            }
            return count;
        }

        int usersReached(int campaign, int end) {
            int reached = 0;
            for (int i = 0; i < end; i++) {
                if (campaigns[i] == campaign) {
                    reached |= 1 << users[i];
                }
            }
            return Integer.bitCount(reached);
        }
    }

    /** The conversions in the order of recording, each with its attribution, which later edits cannot change. */
    private static final class Conversions {
        final int[] values = new int[CONVERSION_LIMIT];
        final int[] firsts = new int[CONVERSION_LIMIT];
        final int[] lasts = new int[CONVERSION_LIMIT];
        final int[] totals = new int[CONVERSION_LIMIT];
        /** For each conversion as many places as there may be campaigns. */
        private final int[] shares = new int[CONVERSION_LIMIT * CAMPAIGN_LIMIT];

        void begin(int at, int value) {
            values[at] = value;
            firsts[at] = NONE;
            lasts[at] = NONE;
            totals[at] = 0;
            for (int i = 0; i < CAMPAIGN_LIMIT; i++) {
                shares[at * CAMPAIGN_LIMIT + i] = 0;
            }
        }

        void share(int at, int campaign) {
            if (totals[at] == 0) {
                firsts[at] = campaign;
            }
            lasts[at] = campaign;
            totals[at]++;
            shares[at * CAMPAIGN_LIMIT + campaign]++;
        }

        double creditOf(int at, int campaign, int model) {
            if (model == MODEL_EVEN) {
                return quotient(values[at] * shares[at * CAMPAIGN_LIMIT + campaign], totals[at]);
            }
            int holder = model == MODEL_FIRST ? firsts[at] : lasts[at];
            return holder == campaign ? (double) values[at] : 0.0;
        }
    }

    /** The market itself: pacing, refusals, ranking and the filling of slots. */
    private static final class Exchange {
        private static final int LEAST_MULTIPLIER = 10;
        private static final int GREATEST_MULTIPLIER = 100;
        /** So many halvings leave one of a thousand floors. */
        private static final int HALVINGS = 12;

        Rules rules;
        final Standing now;
        final Impressions shown;
        /** For each campaign: its impressions that count for its cap, to the user last asked for. */
        final int[] recents;
        private final int[] paced;
        final int[] order;
        int contenders;
        final int[] winners;
        final int[] prices;
        int filled;

        Exchange() {
            rules = new Rules();
            now = new Standing();
            now.begin(rules);
            shown = new Impressions();
            recents = new int[CAMPAIGN_LIMIT];
            paced = new int[CAMPAIGN_LIMIT];
            order = new int[CAMPAIGN_LIMIT];
            winners = new int[FACTOR_LIMIT];
            prices = new int[FACTOR_LIMIT];
        }

        /** Begins anew by other rules, and gives the old ones back, to be written over. */
        Rules open(Rules next) {
            Rules old = rules;
            rules = next;
            now.begin(next);
            return old;
        }

        int pacedBid(int campaign) {
            return perCent(now.bids[campaign], now.multipliers[campaign]);
        }

        /** So many per cent of an amount, rounded up. */
        private static int perCent(int amount, int rate) {
            return (amount * rate + 99) / 100;
        }

        int planned(int campaign) {
            int day = rules.dayTicks > 0 ? rules.dayTicks : 1;
            return now.budgets[campaign] * (1 + now.dayTicksPassed) / day;
        }

        int moneyLeft(int campaign) {
            return now.budgets[campaign] - now.spendings[campaign];
        }

        void passTick() {
            for (int i = 0; i < rules.campaignCount; i++) {
                if (now.modes[i] != FAST) {
                    control(i);
                }
            }
            now.present++;
            now.dayTicksPassed++;
            if (now.dayTicksPassed >= rules.dayTicks) {
                now.beginDay();
            }
        }

        private void control(int campaign) {
            int plan = planned(campaign);
            int rate = now.multipliers[campaign];
            if (now.spendings[campaign] > plan) {
                now.multipliers[campaign] = Math.max(rate - 10, LEAST_MULTIPLIER);
            } else if (now.spendings[campaign] < plan) {
                now.multipliers[campaign] = Math.min(rate + 5, GREATEST_MULTIPLIER);
            }
        }

        void countRecents(int user) {
            for (int i = 0; i < CAMPAIGN_LIMIT; i++) {
                recents[i] = 0;
            }
            for (int i = 0; i < now.shownCount; i++) {
                int campaign = shown.campaigns[i];
                if (shown.users[i] == user && now.present - shown.ticks[i] < rules.campaigns[campaign].window) {
                    recents[campaign]++;
                }
            }
        }

        /** Tells why a campaign with this effective bid is refused, by the recents as they were last counted. */
        int reasonAgainst(int campaign, int tag, int effective, int floor) {
            Campaign terms = rules.campaigns[campaign];
            if (now.paused[campaign]) {
                return 1;
            }
            if (terms.target != NONE && terms.target != tag) {
                return 2;
            }
            if (moneyLeft(campaign) < effective) {
                return 3;
            }
            if (recents[campaign] >= terms.cap) {
                return 4;
            }
            if (now.modes[campaign] == STRICT && now.spendings[campaign] >= planned(campaign)) {
                return 5;
            }
            return effective < floor ? 6 : 0;
        }

        void rank(int user, int tag, int floor) {
            countRecents(user);
            contenders = 0;
            for (int i = 0; i < rules.campaignCount; i++) {
                paced[i] = pacedBid(i);
                if (reasonAgainst(i, tag, paced[i], floor) == 0) {
                    insert(i);
                }
            }
        }

        private void insert(int campaign) {
            int place = contenders;
            while (place > 0 && paced[order[place - 1]] < paced[campaign]) {
                order[place] = order[place - 1];
                place--;
            }
            order[place] = campaign;
            contenders++;
        }

        /** Gives the slots to the ranked campaigns that bid the floor or more, without recording anything. */
        void fill(int slots, int floor) {
            filled = 0;
            int seen = 0;
            for (int place = 0; place < contenders && filled < slots; place++) {
                int campaign = order[place];
                if (paced[campaign] < floor) {
                    break;
                }
                if ((rules.campaigns[campaign].apart & seen) == 0) {
                    seen |= 1 << campaign;
                    winners[filled] = campaign;
                    prices[filled] = perCent(basePrice(place, floor), rules.factors[filled]);
                    filled++;
                }
            }
        }

        private int basePrice(int place, int floor) {
            int next = place + 1 < contenders ? paced[order[place + 1]] : 0;
            return Math.max(floor, next);
        }

        int serve(int user, int tag, int slots) {
            rank(user, tag, now.floors[tag]);
            fill(slots, now.floors[tag]);
            for (int slot = 0; slot < filled; slot++) {
                now.spendings[winners[slot]] += prices[slot];
                record(user, slot);
            }
            return filled;
        }

        private void record(int user, int slot) {
            int at = now.shownCount;
            if (at >= Impressions.ROOM) {
                return;
            }
            shown.ticks[at] = now.present;
            shown.users[at] = user;
            shown.campaigns[at] = winners[slot];
            shown.slots[at] = slot;
            shown.prices[at] = prices[slot];
            now.shownCount++;
        }

        int leastWinningBid(int campaign, int user, int tag, int slots) {
            int floor = now.floors[tag];
            rank(user, tag, floor);
            int rate = now.multipliers[campaign];
            if (rate <= 0) {
                return NONE;
            }
            int needed = Math.max(floor, leastPacedBid(campaign, slots));
            // The smallest bid whose share, rounded up, is what is needed.
            int bid = (needed - 1) * 100 / rate + 1;
            boolean refused = reasonAgainst(campaign, tag, perCent(bid, rate), floor) != 0;
            return refused || bid > GREATEST_BID ? NONE : bid;
        }

        /**
         * What the campaign must bid to stand ahead of the first rival that would shut it out, by taking the last slot
         * or by having to be kept apart; behind that rival it gets no slot, anywhere ahead of it it gets one.
         */
        private int leastPacedBid(int campaign, int slots) {
            int seen = 0;
            int taken = 0;
            for (int place = 0; place < contenders; place++) {
                int rival = order[place];
                int apart = rules.campaigns[rival].apart;
                if (rival == campaign || (apart & seen) != 0) {
                    continue;
                }
                seen |= 1 << rival;
                taken++;
                if (taken == slots || (apart & (1 << campaign)) != 0) {
                    return campaign < rival ? paced[rival] : paced[rival] + 1;
                }
            }
            return 1;
        }

        /**
         * As long as the floor leaves the same campaigns ranked, a greater one lowers no price: the sum is greatest at
         * one of the effective bids. The smallest such bid is found first, then how far the floor can fall from there.
         */
        int mostEarningFloor(int user, int tag, int slots) {
            rank(user, tag, 0);
            int best = 0;
            int enough = 0;
            for (int place = contenders - 1; place >= 0; place--) {
                int floor = paced[order[place]];
                int sum = earningsAt(slots, floor);
                if (sum > best) {
                    best = sum;
                    enough = floor;
                }
            }
            return leastFloorEarning(best, slots, enough);
        }

        /** Of the floors up to the given one, which earns the sum, those that earn it too are the greatest. */
        private int leastFloorEarning(int sum, int slots, int enough) {
            int least = 0;
            int greatest = enough;
            for (int i = 0; i < HALVINGS && least < greatest; i++) {
                int middle = (least + greatest) / 2;
                if (earningsAt(slots, middle) >= sum) {
                    greatest = middle;
                } else {
                    least = middle + 1;
                }
            }
            return least;
        }

        private int earningsAt(int slots, int floor) {
            fill(slots, floor);
            int sum = 0;
            for (int slot = 0; slot < filled; slot++) {
                sum += prices[slot];
            }
            return sum;
        }
    }
}
