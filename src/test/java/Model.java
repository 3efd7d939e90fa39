import java.util.ArrayDeque;
import java.util.ArrayList;
import java.util.Arrays;
import java.util.Collections;
import java.util.Comparator;
import java.util.Deque;
import java.util.HashMap;
import java.util.HashSet;
import java.util.List;
import java.util.Map;
import java.util.Set;
import java.util.TreeSet;
import java.util.regex.Matcher;
import java.util.regex.Pattern;

/**
 * The document again, as slowly and literally as it can be written: searches try every value, trials work on a copy of
 * the whole market, and attributions are worked out anew at every question. ModelTest compares the class with it.
 */
final class Model {
    static final class Camp {
        String name;
        int bid, budget, cap, window, mode, spent;
        int target = -1;
        int multiplier = 100;
        boolean paused;

        Camp copy() {
            Camp c = new Camp();
            c.name = name;
            c.bid = bid;
            c.budget = budget;
            c.cap = cap;
            c.window = window;
            c.mode = mode;
            c.spent = spent;
            c.target = target;
            c.multiplier = multiplier;
            c.paused = paused;
            return c;
        }

        int effective() {
            return (int) Math.ceil(bid * multiplier / 100.0);
        }
    }

    record Shown(int tick, int user, int campaign, int slot, int price) { }

    record Conversion(int tick, int user, int value, int shownBefore) { }

    /** Everything but the buffer, the error, the output and the memory of edits. */
    static final class Market {
        int day = 100, attribution = 50, tick = 0;
        List<Integer> factors = new ArrayList<>(List.of(100));
        List<String> tagNames = new ArrayList<>();
        List<Integer> floors = new ArrayList<>();
        List<Camp> camps = new ArrayList<>();
        List<Set<Integer>> apart = new ArrayList<>();
        List<Shown> shown = new ArrayList<>();
        List<Conversion> conversions = new ArrayList<>();

        Market copy() {
            Market m = new Market();
            m.day = day;
            m.attribution = attribution;
            m.tick = tick;
            m.factors = new ArrayList<>(factors);
            m.tagNames = new ArrayList<>(tagNames);
            m.floors = new ArrayList<>(floors);
            for (Camp c : camps) {
                m.camps.add(c.copy());
            }
            m.apart = new ArrayList<>(apart);
            m.shown = new ArrayList<>(shown);
            m.conversions = new ArrayList<>(conversions);
            return m;
        }

        int plan(int c) {
            return (int) Math.floor(camps.get(c).budget * (1 + tick % day) / (double) day);
        }

        int recent(int c, int user) {
            int from = tick - camps.get(c).window + 1;
            return (int) shown.stream()
                .filter(s -> s.campaign == c && s.user == user && s.tick >= from && s.tick <= tick).count();
        }

        int refusal(int c, int user, int tag) {
            Camp camp = camps.get(c);
            boolean[] applies = {
                camp.paused,
                camp.target >= 0 && camp.target != tag,
                camp.budget - camp.spent < camp.effective(),
                recent(c, user) >= camp.cap,
                camp.mode == 2 && !(camp.spent < plan(c)),
                camp.effective() < floors.get(tag),
            };
            for (int i = 0; i < applies.length; i++) {
                if (applies[i]) {
                    return i + 1;
                }
            }
            return 0;
        }

        List<Integer> ranking(int user, int tag) {
            List<Integer> all = new ArrayList<>();
            for (int c = 0; c < camps.size(); c++) {
                if (refusal(c, user, tag) == 0) {
                    all.add(c);
                }
            }
            all.sort(Comparator.comparingInt((Integer c) -> -camps.get(c).effective()).thenComparingInt(c -> c));
            return all;
        }

        /** What a request would record. */
        List<Shown> auction(int user, int tag, int slots) {
            List<Integer> ranking = ranking(user, tag);
            List<Shown> result = new ArrayList<>();
            for (int place = 0; place < ranking.size() && result.size() < slots; place++) {
                int c = ranking.get(place);
                if (result.stream().anyMatch(s -> apart.contains(Set.of(s.campaign, c)))) {
                    continue;
                }
                int next = place + 1 < ranking.size() ? camps.get(ranking.get(place + 1)).effective() : 0;
                int base = Math.max(floors.get(tag), next);
                int price = (int) Math.ceil(base * factors.get(result.size()) / 100.0);
                result.add(new Shown(tick, user, c, result.size(), price));
            }
            return result;
        }

        int request(int user, int tag, int slots) {
            List<Shown> won = auction(user, tag, slots);
            for (Shown s : won) {
                camps.get(s.campaign).spent += s.price;
            }
            shown.addAll(won);
            return won.size();
        }

        void passOne() {
            for (int c = 0; c < camps.size(); c++) {
                Camp camp = camps.get(c);
                if (camp.mode > 0 && camp.spent > plan(c)) {
                    camp.multiplier = Math.max(10, camp.multiplier - 10);
                } else if (camp.mode > 0 && camp.spent < plan(c)) {
                    camp.multiplier = Math.min(100, camp.multiplier + 5);
                }
            }
            tick++;
            if (tick % day == 0) {
                for (Camp camp : camps) {
                    camp.spent = 0;
                    camp.multiplier = 100;
                }
            }
        }

        Market after(int tag, int slots, int ticks) {
            Market m = copy();
            for (int i = 0; i < ticks; i++) {
                m.request(i % 16, tag, slots);
                m.passOne();
            }
            return m;
        }

        List<Shown> touched(Conversion v) {
            return shown.subList(0, v.shownBefore).stream()
                .filter(s -> s.user == v.user && s.tick >= v.tick - attribution).toList();
        }

        int reach(int c) {
            return (int) shown.stream().filter(s -> s.campaign == c).map(Shown::user).distinct().count();
        }
    }

    private Market now = new Market();
    private final Deque<Market> edits = new ArrayDeque<>();
    private final StringBuilder buffer = new StringBuilder();
    private int errorKind = 0;
    private int errorPosition = -1;
    private String output = "";

    // ---- checks

    private void tagExists(int tag) {
        if (tag < 0 || tag >= now.floors.size()) {
            throw new IndexOutOfBoundsException();
        }
    }

    private void campaignExists(int c) {
        if (c < 0 || c >= now.camps.size()) {
            throw new IndexOutOfBoundsException();
        }
    }

    private static void within(int value, int least, int most) {
        if (value < least || value > most) {
            throw new IllegalArgumentException();
        }
    }

    private static void possible(boolean is) {
        if (!is) {
            throw new IllegalStateException();
        }
    }

    private void edit() {
        edits.addLast(now.copy());
        if (edits.size() > 8) {
            edits.removeFirst();
        }
    }

    // ---- text

    int feed(int a, int b, int c, int d, int e) {
        if (buffer.length() + 20 > 600) {
            return -2;
        }
        for (int word : new int[] {a, b, c, d, e}) {
            for (int i = 3; i >= 0; i--) {
                buffer.append((char) (word >> 8 * i & 255));
            }
        }
        return buffer.length();
    }

    int load(int length) {
        within(length, 0, buffer.length());
        String text = buffer.substring(0, length);
        buffer.setLength(0);
        Reading reading = new Reading(text);
        errorKind = reading.kind;
        errorPosition = reading.position;
        if (errorKind != 0) {
            return -3;
        }
        now = reading.market;
        edits.clear();
        return now.camps.size();
    }

    int errorKind() {
        return errorKind;
    }

    int errorPosition() {
        return errorPosition;
    }

    /** Reads a text token by token: for every token the set of the kinds of error that apply to it. */
    private static final class Reading {
        private static final Pattern TOKEN = Pattern.compile("[a-z]+|[0-9]+|[^ \\n]", Pattern.DOTALL);
        private static final Map<String, String> FORMS = Map.of(
            "day", "TICKS ;", "attribute", "TICKS ;", "slots", "FACTOR", "tag", "TAGNAME FLOOR ;",
            "campaign", "NAME BID BUDGET CAP WINDOW TARGET ;", "pace", "CAMPAIGN MODE ;", "apart", "CAMPAIGN OTHER ;");
        private static final Map<String, int[]> RANGES = Map.of(
            "TICKS", new int[] {1, 999}, "FLOOR", new int[] {0, 999}, "BID", new int[] {1, 999},
            "BUDGET", new int[] {1, 9999}, "CAP", new int[] {1, 9}, "WINDOW", new int[] {1, 999});
        private static final List<String> MODES = List.of("fast", "even", "strict");

        final Market market = new Market();
        int kind = 0;
        int position = -1;
        private final Map<String, Integer> used = new HashMap<>();
        private final List<String> statement = new ArrayList<>();
        private final List<String> expected = new ArrayList<>();

        Reading(String text) {
            Matcher m = TOKEN.matcher(text);
            while (m.find()) {
                Set<Integer> kinds = take(m.group());
                if (!kinds.isEmpty()) {
                    kind = Collections.min(kinds);
                    position = m.start();
                    return;
                }
            }
            if (!statement.isEmpty()) {
                kind = 2;
                position = text.length();
            }
        }

        private Set<Integer> take(String token) {
            Set<Integer> kinds = new TreeSet<>();
            if (!token.matches("[a-z]{1,10}|[0-9]{1,4}|;")) {
                kinds.add(1);
                return kinds;
            }
            if (statement.isEmpty()) {
                begin(token, kinds);
            } else {
                String role = expected.remove(0);
                if (role.equals("FACTOR")) {
                    factor(token, kinds);
                } else {
                    judge(token, role, kinds);
                }
            }
            statement.add(token);
            if (kinds.isEmpty() && token.equals(";")) {
                finish();
                statement.clear();
            }
            return kinds;
        }

        private void begin(String token, Set<Integer> kinds) {
            if (!FORMS.containsKey(token)) {
                kinds.add(2);
                return;
            }
            int most = Map.of("tag", 6, "campaign", 8, "apart", 8).getOrDefault(token, 1000);
            if (used.merge(token, 1, Integer::sum) > most) {
                kinds.add(5);
            }
            expected.clear();
            expected.addAll(Arrays.asList(FORMS.get(token).split(" ")));
        }

        private void factor(String token, Set<Integer> kinds) {
            int count = statement.size() - 1;
            if (token.equals(";") && count > 0) {
                return;
            }
            if (!isNumber(token)) {
                kinds.add(2);
                return;
            }
            int most = count == 0 ? 100 : Integer.parseInt(statement.get(count));
            if (Integer.parseInt(token) < 1 || Integer.parseInt(token) > most) {
                kinds.add(3);
            }
            if (count >= 4) {
                kinds.add(5);
            }
            expected.add("FACTOR");
        }

        private void judge(String token, String role, Set<Integer> kinds) {
            boolean word = Character.isLetter(token.charAt(0));
            List<String> campNames = market.camps.stream().map(c -> c.name).toList();
            switch (role) {
                case ";" -> flag(kinds, 2, !token.equals(";"));
                case "TAGNAME", "NAME" -> {
                    flag(kinds, 2, !word || token.equals("any"));
                    flag(kinds, 4, (role.equals("NAME") ? campNames : market.tagNames).contains(token));
                }
                case "TARGET" -> {
                    flag(kinds, 2, !word);
                    flag(kinds, 4, !token.equals("any") && !market.tagNames.contains(token));
                }
                case "CAMPAIGN", "OTHER" -> {
                    flag(kinds, 2, !word || token.equals("any"));
                    flag(kinds, 4, !campNames.contains(token));
                    flag(kinds, 4, role.equals("OTHER") && token.equals(statement.get(1)));
                }
                case "MODE" -> flag(kinds, 2, !MODES.contains(token));
                default -> {
                    flag(kinds, 2, !isNumber(token));
                    flag(kinds, 3, isNumber(token) && (Integer.parseInt(token) < RANGES.get(role)[0]
                        || Integer.parseInt(token) > RANGES.get(role)[1]));
                }
            }
        }

        private static void flag(Set<Integer> kinds, int kind, boolean applies) {
            if (applies) {
                kinds.add(kind);
            }
        }

        private static boolean isNumber(String token) {
            return token.matches("[0-9]+");
        }

        private int number(int k) {
            return Integer.parseInt(statement.get(k));
        }

        private int campaign(int k) {
            return market.camps.stream().map(c -> c.name).toList().indexOf(statement.get(k));
        }

        private void finish() {
            switch (statement.get(0)) {
                case "day" -> market.day = number(1);
                case "attribute" -> market.attribution = number(1);
                case "slots" -> market.factors = new ArrayList<>(
                    statement.subList(1, statement.size() - 1).stream().map(Integer::valueOf).toList());
                case "tag" -> {
                    market.tagNames.add(statement.get(1));
                    market.floors.add(number(2));
                }
                case "campaign" -> {
                    Camp c = new Camp();
                    c.name = statement.get(1);
                    c.bid = number(2);
                    c.budget = number(3);
                    c.cap = number(4);
                    c.window = number(5);
                    c.target = market.tagNames.indexOf(statement.get(6));
                    market.camps.add(c);
                }
                case "pace" -> market.camps.get(campaign(1)).mode = MODES.indexOf(statement.get(2));
                default -> market.apart.add(new HashSet<>(List.of(campaign(1), campaign(2))));
            }
        }
    }

    // ---- campaigns, tags

    int campaigns() {
        return now.camps.size();
    }

    int tags() {
        return now.floors.size();
    }

    int slots() {
        return now.factors.size();
    }

    int floor(int tag) {
        tagExists(tag);
        return now.floors.get(tag);
    }

    int bid(int c) {
        campaignExists(c);
        return now.camps.get(c).bid;
    }

    int effectiveBid(int c) {
        campaignExists(c);
        return now.camps.get(c).effective();
    }

    int multiplier(int c) {
        campaignExists(c);
        return now.camps.get(c).multiplier;
    }

    int budget(int c) {
        campaignExists(c);
        return now.camps.get(c).budget;
    }

    int spent(int c) {
        campaignExists(c);
        return now.camps.get(c).spent;
    }

    int plan(int c) {
        campaignExists(c);
        return now.plan(c);
    }

    int mode(int c) {
        campaignExists(c);
        return now.camps.get(c).mode;
    }

    int tick() {
        return now.tick;
    }

    // ---- auctions

    int refusal(int c, int user, int tag) {
        campaignExists(c);
        tagExists(tag);
        within(user, 0, 15);
        return now.refusal(c, user, tag);
    }

    int ranked(int user, int tag, int place) {
        tagExists(tag);
        within(user, 0, 15);
        within(place, 0, Integer.MAX_VALUE);
        List<Integer> all = now.ranking(user, tag);
        return place < all.size() ? all.get(place) : -1;
    }

    int winner(int user, int tag, int slot) {
        tagExists(tag);
        within(user, 0, 15);
        within(slot, 0, slots() - 1);
        List<Shown> won = now.auction(user, tag, slot + 1);
        return slot < won.size() ? won.get(slot).campaign : -1;
    }

    int price(int user, int tag, int slot) {
        tagExists(tag);
        within(user, 0, 15);
        within(slot, 0, slots() - 1);
        List<Shown> won = now.auction(user, tag, slot + 1);
        return slot < won.size() ? won.get(slot).price : -1;
    }

    int leastBid(int c, int user, int tag, int slots) {
        campaignExists(c);
        tagExists(tag);
        within(user, 0, 15);
        within(slots, 1, slots());
        Market m = now.copy();
        for (int bid = 1; bid <= 999; bid++) {
            m.camps.get(c).bid = bid;
            if (m.auction(user, tag, slots).stream().anyMatch(s -> s.campaign == c)) {
                return bid;
            }
        }
        return -1;
    }

    int bestFloor(int user, int tag, int slots) {
        tagExists(tag);
        within(user, 0, 15);
        within(slots, 1, slots());
        Market m = now.copy();
        int best = -1;
        int most = -1;
        for (int floor = 0; floor <= 999; floor++) {
            m.floors.set(tag, floor);
            int sum = m.auction(user, tag, slots).stream().mapToInt(Shown::price).sum();
            if (sum > most) {
                best = floor;
                most = sum;
            }
        }
        return best;
    }

    int revenueAfter(int tag, int slots, int ticks) {
        tagExists(tag);
        within(slots, 1, slots());
        within(ticks, 1, 60);
        return now.after(tag, slots, ticks).shown.stream().skip(now.shown.size()).mapToInt(Shown::price).sum();
    }

    int multiplierAfter(int c, int tag, int slots, int ticks) {
        campaignExists(c);
        tagExists(tag);
        within(slots, 1, slots());
        within(ticks, 1, 60);
        return now.after(tag, slots, ticks).camps.get(c).multiplier;
    }

    int bestMode(int c, int tag, int slots, int ticks) {
        campaignExists(c);
        tagExists(tag);
        within(slots, 1, slots());
        within(ticks, 1, 60);
        long[] counts = new long[3];
        for (int mode = 0; mode < 3; mode++) {
            Market m = now.copy();
            m.camps.get(c).mode = mode;
            m.camps.get(c).multiplier = 100;
            counts[mode] = m.after(tag, slots, ticks).shown.stream().filter(s -> s.campaign == c).count();
        }
        long most = Math.max(counts[0], Math.max(counts[1], counts[2]));
        return counts[0] == most ? 0 : counts[1] == most ? 1 : 2;
    }

    // ---- edits

    int request(int user, int tag, int slots) {
        tagExists(tag);
        within(user, 0, 15);
        within(slots, 1, slots());
        possible(now.shown.size() + slots <= 160);
        edit();
        return now.request(user, tag, slots);
    }

    int pass(int ticks) {
        within(ticks, 1, 200);
        possible(now.tick + ticks <= 9999);
        edit();
        for (int i = 0; i < ticks; i++) {
            now.passOne();
        }
        return now.tick;
    }

    int convert(int user, int value) {
        within(user, 0, 15);
        within(value, 1, 9999);
        possible(now.conversions.size() < 40);
        edit();
        Conversion v = new Conversion(now.tick, user, value, now.shown.size());
        now.conversions.add(v);
        List<Shown> touched = now.touched(v);
        return touched.isEmpty() ? -1 : touched.get(touched.size() - 1).campaign;
    }

    int pause(int c) {
        campaignExists(c);
        possible(!now.camps.get(c).paused);
        edit();
        now.camps.get(c).paused = true;
        return now.camps.get(c).budget - now.camps.get(c).spent;
    }

    int resume(int c) {
        campaignExists(c);
        possible(now.camps.get(c).paused);
        edit();
        now.camps.get(c).paused = false;
        return now.camps.get(c).budget - now.camps.get(c).spent;
    }

    int setBid(int c, int bid) {
        campaignExists(c);
        within(bid, 1, 999);
        edit();
        int previous = now.camps.get(c).bid;
        now.camps.get(c).bid = bid;
        return previous;
    }

    int setBudget(int c, int budget) {
        campaignExists(c);
        within(budget, 1, 9999);
        possible(now.camps.get(c).spent <= budget);
        edit();
        int previous = now.camps.get(c).budget;
        now.camps.get(c).budget = budget;
        return previous;
    }

    int setMode(int c, int mode) {
        campaignExists(c);
        within(mode, 0, 2);
        edit();
        int previous = now.camps.get(c).mode;
        now.camps.get(c).mode = mode;
        now.camps.get(c).multiplier = 100;
        return previous;
    }

    int setFloor(int tag, int floor) {
        tagExists(tag);
        within(floor, 0, 999);
        edit();
        return now.floors.set(tag, floor);
    }

    int undo() {
        if (edits.isEmpty()) {
            return -1;
        }
        now = edits.removeLast();
        return edits.size();
    }

    // ---- impressions, conversions

    int impressions() {
        return now.shown.size();
    }

    int impression(int i, int what) {
        if (i < 0 || i >= now.shown.size()) {
            throw new IndexOutOfBoundsException();
        }
        within(what, 0, 4);
        Shown s = now.shown.get(i);
        return List.of(s.tick, s.user, s.campaign, s.slot, s.price).get(what);
    }

    int revenue() {
        return now.shown.stream().mapToInt(Shown::price).sum();
    }

    int reach(int c) {
        campaignExists(c);
        return now.reach(c);
    }

    double frequency(int c) {
        campaignExists(c);
        double count = now.shown.stream().filter(s -> s.campaign == c).count();
        return now.reach(c) == 0 ? 0.0 : count / now.reach(c);
    }

    int recent(int c, int user) {
        campaignExists(c);
        within(user, 0, 15);
        return now.recent(c, user);
    }

    int topUser() {
        int top = -1;
        long most = 0;
        for (int u = 15; u >= 0; u--) {
            int user = u;
            long count = now.shown.stream().filter(s -> s.user == user).count();
            if (count >= most && count > 0) {
                top = u;
                most = count;
            }
        }
        return top;
    }

    double meanPrice(int slot) {
        within(slot, 0, slots() - 1);
        return now.shown.stream().filter(s -> s.slot == slot).mapToInt(Shown::price).average().orElse(0.0);
    }

    int conversions() {
        return now.conversions.size();
    }

    double credit(int c, int model) {
        campaignExists(c);
        within(model, 0, 2);
        double sum = 0.0;
        for (Conversion v : now.conversions) {
            List<Shown> touched = now.touched(v);
            if (touched.isEmpty()) {
                continue;
            }
            if (model == 2) {
                long mine = touched.stream().filter(s -> s.campaign == c).count();
                sum += (double) (v.value * mine) / touched.size();
            } else if (touched.get(model == 0 ? touched.size() - 1 : 0).campaign == c) {
                sum += v.value;
            }
        }
        return sum;
    }

    int unattributed() {
        return now.conversions.stream().filter(v -> now.touched(v).isEmpty()).mapToInt(Conversion::value).sum();
    }

    // ---- output

    int write(int c) {
        campaignExists(c);
        Camp camp = now.camps.get(c);
        output = camp.name + " " + List.of("fast", "even", "strict").get(camp.mode) + ": " + camp.spent + "/"
            + camp.budget + " at " + camp.effective() + (camp.paused ? " paused" : "")
            + (now.reach(c) > 0 ? ", seen by " + now.reach(c) : "");
        return output.length();
    }

    char written(int k) {
        if (k < 0 || k >= output.length()) {
            throw new IndexOutOfBoundsException();
        }
        return output.charAt(k);
    }
}
