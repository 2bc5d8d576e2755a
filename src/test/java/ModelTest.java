import java.util.ArrayDeque;
import java.util.ArrayList;
import java.util.Comparator;
import java.util.Deque;
import java.util.List;
import java.util.Map;
import java.util.TreeMap;
import java.util.regex.Matcher;
import java.util.regex.Pattern;

/**
 * Long runs of calls, each answer compared with a second, plain telling of the document that is built of lists and
 * objects, so that the two share no way of holding the state.
 */
public final class ModelTest {
    private static final int RUNS = 4000;
    private static final int CALLS = 512;

    static final class Brother {
        int number;
        int age;
        boolean isKin;
        int how;
        int cell = -15;
        int gown;
        int ban;
        int got;
        int aim = -15;
        int[] broke = new int[5];

        Brother copy() {
            Brother b = new Brother();
            b.number = number;
            b.age = age;
            b.isKin = isKin;
            b.how = how;
            b.cell = cell;
            b.gown = gown;
            b.ban = ban;
            b.got = got;
            b.aim = aim;
            b.broke = broke.clone();
            return b;
        }
    }

    static final class House {
        List<Brother> all = new ArrayList<>();
        List<Integer> line = new ArrayList<>();
        List<Integer> seniors = new ArrayList<>();
        Map<Integer, Integer> feasts = new TreeMap<>();
        int year;
        int week;
        int chest = 100;
        int income;
        int paid;
        int paidForGowns;
        int gowns;
        int pardons;

        House copy() {
            House h = new House();
            for (Brother b : all) {
                h.all.add(b.copy());
            }
            h.line.addAll(line);
            h.seniors.addAll(seniors);
            h.feasts.putAll(feasts);
            h.year = year;
            h.week = week;
            h.chest = chest;
            h.income = income;
            h.paid = paid;
            h.paidForGowns = paidForGowns;
            h.gowns = gowns;
            h.pardons = pardons;
            return h;
        }

        boolean has(int b) {
            return b >= 0 && b < all.size();
        }

        int inCell(int cell) {
            for (int s : seniors) {
                if (all.get(s).cell == cell) {
                    return s;
                }
            }
            return -15;
        }

        int votes(int b) {
            int sum = 0;
            for (int s : seniors) {
                if (all.get(s).aim == b) {
                    sum += all.get(b).isKin ? 2 : 1;
                }
            }
            return sum;
        }

        List<Integer> ranked() {
            List<Integer> sorted = new ArrayList<>(line);
            sorted.sort(Comparator.comparingInt((Integer b) -> -votes(b)));
            return sorted;
        }

        List<Integer> shabby() {
            List<Integer> sorted = new ArrayList<>(seniors);
            sorted.sort(Comparator.comparingInt((Integer b) -> -all.get(b).gown));
            return sorted;
        }

        void aimless(int b) {
            for (Brother giver : all) {
                if (giver.aim == b) {
                    giver.aim = -15;
                }
            }
        }

        void goOut(int b, int how) {
            Brother gone = all.get(b);
            gone.how = how;
            gone.cell = -15;
            gone.ban = 0;
            gone.aim = -15;
            seniors.remove((Integer) b);
        }

        int earn(int pence) {
            int before = chest;
            chest = Math.min(9999, chest + pence);
            income += chest - before;
            return chest;
        }

        int oneWeek() {
            int given = 0;
            if (feasts.containsKey(week)) {
                List<Brother> who = new ArrayList<>();
                for (int s : seniors) {
                    if (all.get(s).ban == 0) {
                        who.add(all.get(s));
                    }
                }
                int each = feasts.get(week);
                if (!who.isEmpty() && chest < each * who.size()) {
                    each = chest / who.size();
                }
                for (Brother b : who) {
                    b.got += each;
                    chest -= each;
                    given += each;
                }
                paid += given;
            }
            for (Brother b : all) {
                b.ban = Math.max(0, b.ban - 1);
            }
            for (int c = 0; c < 8; c++) {
                if (inCell(c) < 0) {
                    earn(2);
                }
            }
            week++;
            if (week == 52) {
                week = 0;
                newYear();
            }
            return given;
        }

        void newYear() {
            year++;
            pardons = 0;
            for (Brother b : all) {
                if (b.how < 2) {
                    b.age++;
                }
                if (b.how == 1) {
                    b.gown++;
                }
            }
            for (int b : shabby()) {
                if (all.get(b).gown >= 2 && chest >= 8) {
                    all.get(b).gown = 0;
                    chest -= 8;
                    paidForGowns += 8;
                    gowns++;
                }
            }
        }
    }

    static final class Model {
        House h = new House();
        House saved;
        Deque<House> past = new ArrayDeque<>();
        StringBuilder text = new StringBuilder();
        String line = "";
        int reason = -15;
        int detail = -15;

        static final Pattern ORDERS;

        static {
            String order = "(voice \\d{1,2} \\d{1,2}|choose \\d|leave \\d|breach \\d{1,2} \\d|pardon \\d{1,2}"
                    + "|feast \\d{1,2} \\d|gift \\d{1,3}|weeks \\d{1,2})";
            ORDERS = Pattern.compile(order + "(;" + order + ")*");
        }

        int refuse(int why, int about) {
            reason = why;
            detail = about;
            return -14;
        }

        int change(String[] call) {
            House before = h.copy();
            int answer = deed(call);
            if (answer >= 0) {
                past.addLast(before);
                if (past.size() > 8) {
                    past.removeFirst();
                }
            }
            return answer;
        }

        int deed(String[] call) {
            int a = Integer.parseInt(call[1]);
            int b = call.length > 2 ? Integer.parseInt(call[2]) : 0;
            switch (call[0]) {
                case "come": return come(a, b == 1);
                case "withdraw": return withdraw(a);
                case "voice": return voice(a, b);
                case "choose": return choose(a);
                case "leave": return leave(a);
                case "feast": return feast(a, b);
                case "breach": return breach(a, b);
                case "pardon": return pardon(a);
                case "gift": return a < 1 || a > 500 ? -12 : h.earn(a);
                case "weeks": return weeks(a);
                default: throw new IllegalStateException(call[0]);
            }
        }

        int come(int age, boolean isKin) {
            if (age < 50 || age > 90) {
                return -12;
            }
            if (h.all.size() == 16) {
                return refuse(1, 16);
            }
            Brother b = new Brother();
            b.number = h.all.size();
            b.age = age;
            b.isKin = isKin;
            h.all.add(b);
            h.line.add(b.number);
            return b.number;
        }

        int withdraw(int b) {
            if (!h.has(b)) {
                return -11;
            }
            if (h.all.get(b).how != 0) {
                return refuse(2, h.all.get(b).how);
            }
            h.all.get(b).how = 3;
            h.line.remove((Integer) b);
            h.aimless(b);
            return h.line.size();
        }

        int voice(int b, int to) {
            if (!h.has(b) || !h.has(to)) {
                return -11;
            }
            Brother giver = h.all.get(b);
            if (giver.how != 1) {
                return refuse(3, giver.how);
            }
            if (giver.ban > 0) {
                return refuse(4, giver.ban);
            }
            if (h.all.get(to).how != 0) {
                return refuse(2, h.all.get(to).how);
            }
            giver.aim = to;
            return h.votes(to);
        }

        int choose(int c) {
            if (c < 0 || c > 7) {
                return -11;
            }
            if (h.inCell(c) >= 0) {
                return refuse(5, h.inCell(c));
            }
            if (h.line.isEmpty()) {
                return refuse(6, c);
            }
            int b = h.ranked().get(0);
            h.line.remove((Integer) b);
            h.seniors.add(b);
            h.aimless(b);
            h.all.get(b).how = 1;
            h.all.get(b).cell = c;
            h.all.get(b).gown = 0;
            return b;
        }

        int leave(int c) {
            if (c < 0 || c > 7) {
                return -11;
            }
            int b = h.inCell(c);
            if (b < 0) {
                return refuse(7, c);
            }
            h.goOut(b, 3);
            return b;
        }

        int feast(int week, int pence) {
            if (week < 0 || week > 51 || pence < 1 || pence > 9) {
                return -12;
            }
            if (h.feasts.size() == 6 && !h.feasts.containsKey(week)) {
                return refuse(8, 6);
            }
            h.feasts.put(week, pence);
            return h.feasts.size();
        }

        int breach(int b, int rule) {
            if (!h.has(b) || rule < 0 || rule > 4) {
                return -11;
            }
            Brother who = h.all.get(b);
            if (who.how != 1) {
                return refuse(3, who.how);
            }
            who.broke[rule]++;
            who.ban += who.broke[rule];
            if (who.broke[rule] == 3) {
                h.goOut(b, 2);
            }
            return who.ban;
        }

        int pardon(int b) {
            if (!h.has(b)) {
                return -11;
            }
            Brother who = h.all.get(b);
            if (who.how != 1) {
                return refuse(3, who.how);
            }
            if (who.ban == 0) {
                return refuse(10, b);
            }
            if (h.pardons == 2) {
                return refuse(9, 2);
            }
            int ban = who.ban;
            who.ban = 0;
            h.pardons++;
            return ban;
        }

        int weeks(int n) {
            if (n < 1 || n > 60) {
                return -12;
            }
            int given = 0;
            for (int i = 0; i < n; i++) {
                given += h.oneWeek();
            }
            return given;
        }

        int run() {
            String all = text.toString();
            text.setLength(0);
            if (!ORDERS.matcher(all).matches()) {
                return -1000 - fault(all);
            }
            House before = h.copy();
            String[] calls = all.split(";");
            for (int i = 0; i < calls.length; i++) {
                if (deed(calls[i].split(" ")) < 0) {
                    h = before;
                    return refuse(11, i);
                }
            }
            past.addLast(before);
            if (past.size() > 8) {
                past.removeFirst();
            }
            return calls.length;
        }

        static int fault(String all) {
            for (int i = 1; i <= all.length(); i++) {
                Matcher m = ORDERS.matcher(all.substring(0, i));
                if (!m.matches() && !m.hitEnd()) {
                    return i - 1;
                }
            }
            return all.length();
        }

        int ask(String[] call) {
            int a = call.length > 1 ? Integer.parseInt(call[1]) : 0;
            int b = call.length > 2 ? Integer.parseInt(call[2]) : 0;
            switch (call[0]) {
                case "brotherOf": return brotherOf(a, b);
                case "broke": return h.has(a) && b >= 0 && b < 5 ? h.all.get(a).broke[b] : -11;
                case "inCell": return a < 0 || a > 7 ? -11 : h.inCell(a);
                case "entitled":
                case "entitledAgain": return entitled();
                case "voices":
                case "voicesAgain": return h.has(a) ? h.votes(a) : -11;
                case "ranked": return pick(h.ranked(), a);
                case "senior": return pick(h.seniors, a);
                case "shabby": return pick(h.shabby(), a);
                case "nextFeast": return nextFeast();
                case "wouldGet": return wouldGet(a, b);
                case "chestIn": return chestIn(a);
                case "append": return append(a);
                case "run": return run();
                case "tell": return tell();
                case "tellWaiting": return tellWaiting();
                case "character": return a >= 0 && a < line.length() ? line.charAt(a) : -11;
                case "reason": return a == 1 ? detail : reason;
                case "account": return account(a);
                case "isBalanced": return 1;
                case "undo": return undo();
                case "save": saved = h.copy(); return h.all.size();
                case "restore": return restore();
                default: return change(call);
            }
        }

        static int pick(List<Integer> list, int place) {
            return place >= 0 && place < list.size() ? list.get(place) : -11;
        }

        int brotherOf(int b, int what) {
            if (!h.has(b)) {
                return -11;
            }
            Brother who = h.all.get(b);
            switch (what) {
                case 0: return who.age;
                case 1: return who.isKin ? 1 : 0;
                case 2: return who.how;
                case 3: return who.cell;
                case 4: return who.how == 1 ? who.gown : -15;
                case 5: return who.ban;
                case 6: return who.got;
                case 7: return who.broke[0] + who.broke[1] + who.broke[2] + who.broke[3] + who.broke[4];
                case 8: return who.aim;
                case 9: return h.line.contains(b) ? h.line.indexOf(b) : -15;
                default: return -12;
            }
        }

        int entitled() {
            int set = 0;
            for (int s : h.seniors) {
                set |= h.all.get(s).ban == 0 ? 1 << s : 0;
            }
            return set;
        }

        int nextFeast() {
            int least = Integer.MAX_VALUE;
            for (int week : h.feasts.keySet()) {
                least = Math.min(least, Math.floorMod(week - h.week, 52));
            }
            return h.feasts.isEmpty() ? -15 : least;
        }

        House later(int n) {
            House copy = h.copy();
            for (int i = 0; i < n; i++) {
                copy.oneWeek();
            }
            return copy;
        }

        int wouldGet(int b, int n) {
            if (!h.has(b)) {
                return -11;
            }
            return n < 0 || n > 60 ? -12 : later(n).all.get(b).got - h.all.get(b).got;
        }

        int chestIn(int n) {
            return n < 0 || n > 60 ? -12 : later(n).chest;
        }

        int append(int code) {
            if (code < 32 || code > 126) {
                return -12;
            }
            if (text.length() == 60) {
                return -13;
            }
            text.append((char) code);
            return text.length();
        }

        int tell() {
            List<String> parts = new ArrayList<>();
            for (int c = 0; c < 8; c++) {
                int b = h.inCell(c);
                parts.add(b < 0 ? "-"
                        : b + (h.all.get(b).ban > 0 ? "!" : "") + (h.all.get(b).gown >= 2 ? "*" : ""));
            }
            line = String.join(" ", parts);
            return line.length();
        }

        int tellWaiting() {
            List<String> parts = new ArrayList<>();
            for (int b : h.line) {
                parts.add(b + (h.all.get(b).isKin ? "k" : "") + ":" + h.votes(b));
            }
            line = String.join(",", parts);
            return line.length();
        }

        int count(int how) {
            return (int) h.all.stream().filter(b -> b.how == how).count();
        }

        int account(int what) {
            int[] accounts = {h.year, h.week, h.all.size(), h.line.size(), h.seniors.size(), count(2), count(3),
                (int) h.all.stream().filter(b -> b.ban > 0).count(), h.feasts.size(), h.chest, h.income, h.paid,
                h.paidForGowns, h.gowns, h.pardons, text.length(), past.size()};
            return what >= 0 && what < accounts.length ? accounts[what] : -12;
        }

        double meanAge() {
            return h.seniors.stream().mapToInt(s -> h.all.get(s).age).average().orElse(0.0);
        }

        float entitledShare() {
            return h.seniors.isEmpty() ? 0.0f : (float) Integer.bitCount(entitled()) / (float) h.seniors.size();
        }

        int undo() {
            if (past.isEmpty()) {
                return -15;
            }
            h = past.removeLast();
            return past.size();
        }

        int restore() {
            if (saved == null) {
                return -15;
            }
            h = saved.copy();
            past.clear();
            return h.all.size();
        }
    }

    private static int real(PittanceHouse x, String[] call) {
        int a = call.length > 1 ? Integer.parseInt(call[1]) : 0;
        int b = call.length > 2 ? Integer.parseInt(call[2]) : 0;
        switch (call[0]) {
            case "come": return x.come(a, b == 1);
            case "withdraw": return x.withdraw(a);
            case "voice": return x.voice(a, b);
            case "choose": return x.choose(a);
            case "leave": return x.leave(a);
            case "feast": return x.feast(a, b);
            case "breach": return x.breach(a, b);
            case "pardon": return x.pardon(a);
            case "gift": return x.gift(a);
            case "weeks": return x.weeks(a);
            case "brotherOf": return x.brotherOf(a, b);
            case "broke": return x.broke(a, b);
            case "inCell": return x.inCell(a);
            case "entitled": return x.entitled();
            case "entitledAgain": return x.entitledAgain();
            case "voices": return x.voices(a);
            case "voicesAgain": return x.voicesAgain(a);
            case "ranked": return x.ranked(a);
            case "senior": return x.senior(a);
            case "shabby": return x.shabby(a);
            case "nextFeast": return x.nextFeast();
            case "wouldGet": return x.wouldGet(a, b);
            case "chestIn": return x.chestIn(a);
            case "append": return x.append(a);
            case "run": return x.run();
            case "tell": return x.tell();
            case "tellWaiting": return x.tellWaiting();
            case "character": return x.character(a);
            case "reason": return x.reason(a == 1);
            case "account": return x.account(a);
            case "isBalanced": return x.isBalanced();
            case "undo": return x.undo();
            case "save": return x.save();
            case "restore": return x.restore();
            default: throw new IllegalStateException(call[0]);
        }
    }

    /** Deals calls out of a number that each run begins anew, so that every run can be had again. */
    static final class Dealer {
        static final String[] CHANGES = {"come", "withdraw", "voice", "choose", "leave", "feast", "breach", "pardon",
            "gift", "weeks"};
        static final String[] ASKS = {"brotherOf", "broke", "inCell", "entitled", "entitledAgain", "voices",
            "voicesAgain", "ranked", "senior", "shabby", "nextFeast", "wouldGet", "chestIn", "tell", "tellWaiting",
            "character", "reason", "account", "isBalanced", "undo", "save", "restore", "append", "run"};
        // How often each change comes: an ordinary house, a poor one, a rich one, a strict one.
        static final int[][] MOODS = {
            {6, 1, 6, 5, 2, 2, 4, 3, 2, 6},
            {8, 0, 2, 9, 0, 6, 1, 1, 0, 12},
            {3, 0, 2, 3, 1, 2, 1, 1, 14, 8},
            {6, 1, 6, 6, 1, 1, 9, 5, 1, 3}};
        static final int[] EDGES = {Integer.MIN_VALUE, -1, 0, 1, 2, 7, 8, 9, 10, 15, 16, 17, 49, 50, 51, 52, 59, 60, 61,
            90, 91, 127, 500, 501, 1 << 28, Integer.MAX_VALUE};
        long seed;
        final int[] mood;
        final StringBuilder waiting = new StringBuilder();

        Dealer(long seed) {
            this.seed = seed * 2654435761L + 1;
            this.mood = MOODS[below(MOODS.length)];
        }

        int below(int bound) {
            seed = seed * 6364136223846793005L + 1442695040888963407L;
            return (int) ((seed >>> 33) % bound);
        }

        String next() {
            if (waiting.length() > 0) {
                int code = waiting.charAt(0);
                waiting.deleteCharAt(0);
                return code == 0 ? "run" : "append " + code;
            }
            int kind = below(100);
            if (kind < 45) {
                return change();
            }
            if (kind < 48) {
                dealText();
            }
            return ask();
        }

        String change() {
            int sum = 0;
            for (int m : mood) {
                sum += m;
            }
            int at = below(sum);
            int which = 0;
            while (at >= mood[which]) {
                at -= mood[which];
                which++;
            }
            return filled(CHANGES[which]);
        }

        String filled(String name) {
            boolean isWild = below(15) == 0;
            int a = below(16);
            int b = below(16);
            switch (name) {
                case "come": a = 50 + below(41); b = below(2); break;
                case "choose": a = below(8); break;
                case "leave": a = below(8); break;
                case "feast": a = below(52); b = 1 + below(9); break;
                case "breach": b = below(5); break;
                case "gift": a = 1 + below(500); break;
                case "weeks": a = below(2) == 0 ? 1 + below(3) : 1 + below(60); break;
                default: break;
            }
            if (isWild) {
                a = EDGES[below(EDGES.length)];
            }
            if (isWild && below(2) == 0 && !name.equals("come")) {
                b = EDGES[below(EDGES.length)];
            }
            return name + " " + a + " " + b;
        }

        String ask() {
            String name = ASKS[below(ASKS.length)];
            if (name.equals("undo") || name.equals("restore")) {
                if (below(3) > 0) {
                    name = "account";
                }
            }
            int a = below(18) - 1;
            int b = below(12) - 1;
            if (name.equals("wouldGet")) {
                b = below(62);
            }
            if (name.equals("chestIn")) {
                a = below(63) - 1;
            }
            if (name.equals("character")) {
                a = below(45) - 1;
            }
            if (name.equals("reason")) {
                a = below(2);
            }
            if (name.equals("append")) {
                a = below(3) == 0 ? below(130) : "vclbpfgw".charAt(below(8));
            }
            if (below(40) == 0) {
                a = EDGES[below(EDGES.length)];
            }
            return name + " " + a + " " + b;
        }

        void dealText() {
            int many = 1 + below(8);
            for (int i = 0; i < many; i++) {
                String[] call = filled(CHANGES[2 + below(8)]).split(" ");
                boolean isDouble = "voice breach feast".contains(call[0]);
                waiting.append(i > 0 ? ";" : "").append(call[0]).append(' ').append(call[1]);
                waiting.append(isDouble ? " " + call[2] : "");
            }
            if (below(4) == 0) {
                int at = below(waiting.length());
                waiting.setCharAt(at, (char) (32 + below(95)));
            }
            if (below(4) == 0) {
                waiting.setLength(below(waiting.length() + 1));
            }
            waiting.append((char) 0);
        }
    }

    private static boolean runOnce(int run) {
        PittanceHouse x = new PittanceHouse();
        Model model = new Model();
        Dealer dealer = new Dealer(run);
        for (int i = 0; i < CALLS; i++) {
            String call = dealer.next();
            String[] words = call.split(" ");
            int got = real(x, words);
            int want = model.ask(words);
            if (got != want) {
                System.out.println("run " + run + ", call " + i + ": " + call + " answered " + got + ", due is " + want);
                return false;
            }
        }
        return true;
    }

    /** The two answers that are not whole are asked on shorter runs of their own. */
    private static boolean sharesOnce(int run) {
        PittanceHouse x = new PittanceHouse();
        Model model = new Model();
        Dealer dealer = new Dealer(1000000 + run);
        for (int i = 0; i < CALLS / 3; i++) {
            String[] words = dealer.change().split(" ");
            real(x, words);
            model.ask(words);
            if (x.meanAge() != model.meanAge() || x.entitledShare() != model.entitledShare()) {
                System.out.println("run " + run + ", call " + i + ": a mean or a share is wrong");
                return false;
            }
        }
        return true;
    }

    public static void main(String[] args) {
        int wrong = 0;
        for (int run = 0; run < RUNS; run++) {
            wrong += runOnce(run) ? 0 : 1;
            wrong += run % 8 != 0 || sharesOnce(run) ? 0 : 1;
        }
        System.out.println(wrong == 0 ? RUNS + " runs agree with the model" : wrong + " runs differ from the model");
        if (wrong != 0) {
            System.exit(1);
        }
    }
}
