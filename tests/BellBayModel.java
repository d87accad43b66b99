import java.lang.reflect.Method;
import java.util.ArrayList;
import java.util.Arrays;
import java.util.List;
import java.util.Random;
import java.util.TreeMap;
import java.util.TreeSet;
import java.util.function.IntUnaryOperator;

/**
 * Random bays and random calls, each answered by BellBay and by a plain model of the document that was
 * written apart from it: lists of what is due, all sets tried one by one, nothing kept between calls.
 */
public final class BellBayModel {
    private static final int LONE = -2000000;
    private static int wrong = 0;
    private static int asked = 0;

    // ---------------------------------------------------------------- the model

    static final class Told {
        int churches;
        int seconds;
        int lines;
        int churchesTold;
        int[] kind = new int[9];
        int[] late = new int[9];
        int[] rests = new int[9];
        List<int[]> ears = new ArrayList<>();
        List<int[]> winds = new ArrayList<>();
        List<int[]> fogs = new ArrayList<>();
        List<int[]> deafs = new ArrayList<>();
        List<int[]> funerals = new ArrayList<>();
        List<int[]> starts = new ArrayList<>();
        TreeSet<Integer> muffled = new TreeSet<>();
        TreeSet<Integer> severed = new TreeSet<>();

        Told copy() {
            Told t = new Told();
            t.churches = churches;
            t.seconds = seconds;
            t.lines = lines;
            t.churchesTold = churchesTold;
            t.kind = kind.clone();
            t.late = late.clone();
            t.rests = rests.clone();
            t.ears = rows(ears);
            t.winds = rows(winds);
            t.fogs = rows(fogs);
            t.deafs = rows(deafs);
            t.funerals = rows(funerals);
            t.starts = rows(starts);
            t.muffled = new TreeSet<>(muffled);
            t.severed = new TreeSet<>(severed);
            return t;
        }

        private static List<int[]> rows(List<int[]> from) {
            List<int[]> all = new ArrayList<>();
            for (int[] one : from) {
                all.add(one.clone());
            }
            return all;
        }

        int windTold(int second) {
            int best = -1;
            int blowing = 0;
            for (int[] w : winds) {
                if (w[0] <= second && w[0] >= best) {
                    best = w[0];
                    blowing = w[1];
                }
            }
            return blowing;
        }
    }

    /** A strike, or something that is due: second, church, hour, by which strike, by which ear. */
    record Bell(int second, int church, int hour, int by, int ear) { }

    static final class Play {
        final List<Bell> bells = new ArrayList<>();
        final int[] lost = new int[8];
        final int[][] ears = new int[12][3];

        Play(Told t, IntUnaryOperator more, int dumb) {
            List<Bell> due = new ArrayList<>();
            for (int[] s : t.starts) {
                due.add(new Bell(s[1], s[0], s[2], -1, -1));
            }
            for (int second = 0; second < t.seconds; second++) {
                for (int church = 0; church < t.churches; church++) {
                    if (bells.size() == 300) {
                        return;
                    }
                    Bell best = null;
                    int here = 0;
                    for (Bell b : due) {
                        if (b.second == second && b.church == church) {
                            here++;
                            if (best == null || b.hour > best.hour) {
                                best = b;
                            }
                        }
                    }
                    if (best != null) {
                        lost[7] += here - 1;
                        decide(t, best, due, more, dumb);
                    }
                }
            }
        }

        private Bell lastOf(int church) {
            Bell last = null;
            for (Bell b : bells) {
                if (b.church == church) {
                    last = b;
                }
            }
            return last;
        }

        private void decide(Told t, Bell b, List<Bell> due, IntUnaryOperator more, int dumb) {
            Bell last = lastOf(b.church);
            if (t.muffled.contains(b.church)) {
                lost[4]++;
                return;
            }
            if (last != null && last.second >= b.second - t.rests[b.church]) {
                lost[2]++;
                return;
            }
            if (last != null && t.kind[b.church] == 1 && last.hour >= b.hour) {
                lost[3]++;
                return;
            }
            bells.add(b);
            int index = bells.size() - 1;
            if (bells.size() == 300 || index == dumb) {
                return;
            }
            for (int e = 0; e < t.ears.size(); e++) {
                if (t.ears.get(e)[1] == b.church && !t.severed.contains(e)) {
                    ears[e][2]++;
                    send(t, b, index, e, due, more);
                }
            }
        }

        private void send(Told t, Bell b, int index, int e, List<Bell> due, IntUnaryOperator more) {
            int[] ear = t.ears.get(e);
            int at = b.second + lagOf(ear, t.windTold(b.second) + more.applyAsInt(b.second));
            if (at > t.seconds - 1) {
                lost[5]++;
                return;
            }
            if (within(t.fogs, e, at)) {
                lost[0]++;
                ears[e][0]++;
                return;
            }
            if (within(t.deafs, ear[0], at)) {
                lost[1]++;
                return;
            }
            int hour = within(t.funerals, ear[0], at) ? b.hour + 1 : b.hour;
            if (hour == 100) {
                lost[6]++;
                return;
            }
            if (at + t.late[ear[0]] > t.seconds - 1) {
                lost[5]++;
                return;
            }
            ears[e][1]++;
            due.add(new Bell(at + t.late[ear[0]], ear[0], hour, index, e));
        }

        private static boolean within(List<int[]> spells, int of, int at) {
            for (int[] s : spells) {
                if (s[0] == of && s[1] <= at && at <= s[2]) {
                    return true;
                }
            }
            return false;
        }

        List<Integer> of(int church) {
            List<Integer> all = new ArrayList<>();
            for (int i = 0; i < bells.size(); i++) {
                if (bells.get(i).church == church) {
                    all.add(i);
                }
            }
            return all;
        }

        int lastHour(int church, int second) {
            int hour = 0;
            for (Bell b : bells) {
                if (b.church == church && b.second <= second) {
                    hour = b.hour;
                }
            }
            return hour;
        }

        boolean struck(long second, long church, long hour) {
            for (Bell b : bells) {
                if (b.second == second && b.church == church && b.hour == hour) {
                    return true;
                }
            }
            return false;
        }
    }

    static int lagOf(int[] ear, int wind) {
        int lag = ear[2] + (ear[3] == 1 ? -wind : ear[3] == 2 ? wind : 0);
        return ear[3] != 0 && lag < 1 ? 1 : lag;
    }

    static final class Model {
        Told t = new Told();
        Told[] images = new Told[3];
        long[][] rows = new long[4][];
        int[] widths = new int[4];
        int tape = 0;
        int fault = 0;
        int place = -1;

        private Play play() {
            return play(t);
        }

        private static Play play(Told told) {
            return new Play(told, s -> 0, -1);
        }

        private boolean none() {
            return t.lines == 0;
        }

        private boolean badChurch(int c) {
            return c < 0 || c >= t.churches;
        }

        private boolean badSecond(int s) {
            return s < 0 || s >= t.seconds;
        }

        private boolean badEar(int e) {
            return e < 0 || e >= t.ears.size();
        }

        private static boolean badHour(int h) {
            return h < 1 || h > 99;
        }

        public int church(int c, int what) {
            if (badChurch(c) || what < 0 || what > 3) {
                return -2;
            }
            int[] all = {t.kind[c], t.late[c], t.rests[c], t.muffled.contains(c) ? 1 : 0};
            return all[what];
        }

        public int ear(int e, int what) {
            if (badEar(e) || what < 0 || what > 4) {
                return -2;
            }
            return what == 4 ? (t.severed.contains(e) ? 1 : 0) : t.ears.get(e)[what];
        }

        public int takes(int e, int s) {
            return badEar(e) || badSecond(s) ? -2 : lagOf(t.ears.get(e), t.windTold(s));
        }

        public int strikes() {
            return none() ? -2 : play().bells.size();
        }

        public int strike(int i, int what) {
            if (none() || what < 0 || what > 4) {
                return -2;
            }
            List<Bell> all = play().bells;
            if (i < 0 || i >= all.size()) {
                return -1;
            }
            Bell b = all.get(i);
            return new int[] {b.second, b.church, b.hour, b.by, b.ear}[what];
        }

        public int lost(int what) {
            return none() || what < 0 || what > 7 ? -2 : play().lost[what];
        }

        public int hour(int c, int s) {
            return badChurch(c) || badSecond(s) ? -2 : play().lastHour(c, s);
        }

        public int many(int c) {
            return badChurch(c) ? -2 : play().of(c).size();
        }

        public int when(int c, int what) {
            if (badChurch(c) || what < 0 || what > 2) {
                return -2;
            }
            Play p = play();
            List<Integer> own = p.of(c);
            if (own.size() < (what == 2 ? 2 : 1)) {
                return -1;
            }
            int one = p.bells.get(own.get(0)).second;
            if (what == 0) {
                return one;
            }
            return what == 1 ? p.bells.get(own.get(own.size() - 1)).second : p.bells.get(own.get(1)).second - one;
        }

        public int led(int c, int i) {
            if (badChurch(c)) {
                return -2;
            }
            Play p = play();
            List<Integer> chain = new ArrayList<>();
            for (int at = p.of(c).isEmpty() ? -1 : p.of(c).get(0); at >= 0; at = p.bells.get(at).by) {
                chain.add(at);
            }
            return i < 0 || i >= chain.size() ? -1 : chain.get(i);
        }

        public int agree(int s) {
            if (badSecond(s)) {
                return -2;
            }
            Play p = play();
            for (int at = s; at < t.seconds; at++) {
                TreeSet<Integer> hours = new TreeSet<>();
                for (int c = 0; c < t.churches; c++) {
                    hours.add(p.lastHour(c, at));
                }
                if (hours.size() == 1 && hours.first() > 0) {
                    return at;
                }
            }
            return -1;
        }

        public int noon(int h, int what) {
            if (none() || badHour(h) || what < 0 || what > 3) {
                return -2;
            }
            List<Bell> all = new ArrayList<>();
            for (Bell b : play().bells) {
                if (b.hour == h) {
                    all.add(b);
                }
            }
            if (what == 3) {
                return all.size();
            }
            if (all.isEmpty()) {
                return -1;
            }
            return what == 0 ? all.get(0).second : what == 1 ? all.get(0).church : all.get(all.size() - 1).second;
        }

        public int ship(int a, int b, int s) {
            if (badChurch(a) || badChurch(b) || a == b || badSecond(s)) {
                return LONE;
            }
            Play p = play();
            return p.lastHour(a, s) - p.lastHour(b, s);
        }

        public int quiet() {
            if (none()) {
                return -2;
            }
            int last = -1;
            for (Bell b : play().bells) {
                last = Math.max(last, b.second);
            }
            return last;
        }

        public int muffle(int c, int is) {
            if (badChurch(c) || is != 0 && is != 1) {
                return -2;
            }
            boolean was = t.muffled.contains(c);
            if (is == 1) {
                t.muffled.add(c);
            } else {
                t.muffled.remove(c);
            }
            return was ? 1 : 0;
        }

        public int cut(int e, int is) {
            if (badEar(e) || is != 0 && is != 1) {
                return -2;
            }
            boolean was = t.severed.contains(e);
            if (is == 1) {
                t.severed.add(e);
            } else {
                t.severed.remove(e);
            }
            return was ? 1 : 0;
        }

        interface Good {
            boolean is(Play p);
        }

        private int fewest(boolean ofEars, int what, Good good) {
            int all = ofEars ? t.ears.size() : t.churches;
            int bestSize = 99;
            int best = -1;
            for (int set = 0; set < 1 << all; set++) {
                Told other = t.copy();
                boolean old = false;
                for (int i = 0; i < all; i++) {
                    if ((set >> i & 1) == 1) {
                        old |= !(ofEars ? other.severed : other.muffled).add(i);
                    }
                }
                if (!old && Integer.bitCount(set) < bestSize && good.is(play(other))) {
                    bestSize = Integer.bitCount(set);
                    best = set;
                }
            }
            return best == -1 ? -1 : what == 0 ? bestSize : best;
        }

        public int night(int s, int what) {
            if (badSecond(s) || what < 0 || what > 1) {
                return -2;
            }
            return fewest(false, what, p -> p.bells.isEmpty() || p.bells.get(p.bells.size() - 1).second < s);
        }

        public int spare(int c, int what) {
            return badChurch(c) || what < 0 || what > 1 ? -2 : fewest(true, what, p -> p.of(c).isEmpty());
        }

        public int hush(int n) {
            return none() || n < 0 || n > 300 ? -2 : fewest(true, 0, p -> p.bells.size() <= n);
        }

        public int needs(int c) {
            if (badChurch(c)) {
                return -2;
            }
            if (play().of(c).isEmpty()) {
                return -1;
            }
            int bits = 0;
            for (int e = 0; e < t.ears.size(); e++) {
                Told other = t.copy();
                other.severed.add(e);
                if (play(other).of(c).isEmpty()) {
                    bits |= 1 << e;
                }
            }
            return bits;
        }

        public int harm(int e) {
            if (badEar(e)) {
                return LONE;
            }
            Told other = t.copy();
            other.severed.add(e);
            return strikes() - play(other).bells.size();
        }

        public int pan(int c, int s, int h) {
            if (badChurch(c) || badSecond(s) || badHour(h)) {
                return LONE;
            }
            Told other = t.copy();
            other.starts.add(new int[] {c, s, h});
            return play(other).bells.size() - strikes();
        }

        public int boy(int s, int h) {
            if (badSecond(s) || badHour(h)) {
                return -2;
            }
            int best = 0;
            for (int c = 1; c < t.churches; c++) {
                if (pan(c, s, h) > pan(best, s, h)) {
                    best = c;
                }
            }
            return best;
        }

        private int complete(Play p) {
            int latest = -1;
            for (int c = 0; c < t.churches; c++) {
                if (p.of(c).isEmpty()) {
                    return -1;
                }
                latest = Math.max(latest, p.bells.get(p.of(c).get(0)).second);
            }
            return latest;
        }

        public int gain(int n) {
            if (none() || n < -20 || n > 20) {
                return LONE;
            }
            int old = complete(play());
            int neu = complete(new Play(t, s -> n, -1));
            return old < 0 || neu < 0 ? LONE : old - neu;
        }

        public int wise() {
            TreeMap<Integer, Integer> best = new TreeMap<>();
            for (int n = 20; n >= -20; n--) {
                if (gain(n) != LONE) {
                    best.put(gain(n), n);
                }
            }
            return best.isEmpty() ? LONE : best.lastEntry().getValue();
        }

        public int passes(int e, int what) {
            return badEar(e) || what < 0 || what > 2 ? -2 : play().ears[e][what];
        }

        private boolean comes(List<Bell> all, int i, int of) {
            return i == of || all.get(i).by >= 0 && comes(all, all.get(i).by, of);
        }

        private boolean badStrike(int i) {
            return i < 0 || i >= strikes();
        }

        public int wave(int i) {
            if (none()) {
                return -2;
            }
            if (badStrike(i)) {
                return -1;
            }
            List<Bell> all = play().bells;
            int sum = 0;
            for (int j = 0; j < all.size(); j++) {
                sum += comes(all, j, i) ? 1 : 0;
            }
            return sum;
        }

        public int depth(int i) {
            if (none() || badStrike(i)) {
                return none() ? -2 : -1;
            }
            List<Bell> all = play().bells;
            return all.get(i).by < 0 ? 0 : 1 + depth(all.get(i).by);
        }

        public int source(int i) {
            if (none() || badStrike(i)) {
                return none() ? -2 : -1;
            }
            List<Bell> all = play().bells;
            return all.get(i).by < 0 ? i : source(all.get(i).by);
        }

        public int lap(int c) {
            if (badChurch(c)) {
                return -2;
            }
            Play p = play();
            List<Integer> own = p.of(c);
            for (int k = 1; k < own.size(); k++) {
                if (comes(p.bells, own.get(k), own.get(0))) {
                    return p.bells.get(own.get(k)).second - p.bells.get(own.get(0)).second;
                }
            }
            return -1;
        }

        public int gap(int c) {
            if (badChurch(c)) {
                return -2;
            }
            Play p = play();
            List<Integer> own = p.of(c);
            int most = -1;
            for (int k = 1; k < own.size(); k++) {
                most = Math.max(most, p.bells.get(own.get(k)).second - p.bells.get(own.get(k - 1)).second);
            }
            return most;
        }

        public int waits(int c, int s) {
            if (badChurch(c) || badSecond(s)) {
                return -2;
            }
            Play p = play();
            for (int i : p.of(c)) {
                if (p.bells.get(i).second >= s) {
                    return p.bells.get(i).second - s;
                }
            }
            return -1;
        }

        public int rank(int c) {
            if (badChurch(c)) {
                return -2;
            }
            Play p = play();
            List<int[]> order = new ArrayList<>();
            for (int o = 0; o < t.churches; o++) {
                if (!p.of(o).isEmpty()) {
                    order.add(new int[] {p.bells.get(p.of(o).get(0)).second, o});
                }
            }
            order.sort((a, b) -> a[0] != b[0] ? a[0] - b[0] : a[1] - b[1]);
            for (int k = 0; k < order.size(); k++) {
                if (order.get(k)[1] == c) {
                    return k;
                }
            }
            return -1;
        }

        public int common(int s) {
            if (badSecond(s)) {
                return -2;
            }
            int[] votes = new int[100];
            Play p = play();
            for (int c = 0; c < t.churches; c++) {
                votes[p.lastHour(c, s)]++;
            }
            int best = 0;
            for (int h = 99; h >= 1; h--) {
                if (votes[h] > 0 && (best == 0 || votes[h] >= votes[best])) {
                    best = h;
                }
            }
            return best;
        }

        public int strayed(int s) {
            if (badSecond(s)) {
                return -2;
            }
            int sum = 0;
            for (int c = 0; c < t.churches; c++) {
                int hour = play().lastHour(c, s);
                sum += hour == 0 || hour != common(s) ? 1 : 0;
            }
            return sum;
        }

        public int splits() {
            if (none()) {
                return -2;
            }
            Play p = play();
            int sum = 0;
            for (int s = 0; s < t.seconds; s++) {
                TreeSet<Integer> hours = new TreeSet<>();
                for (int c = 0; c < t.churches; c++) {
                    hours.add(p.lastHour(c, s));
                }
                hours.remove(0);
                sum += hours.size() > 1 ? 1 : 0;
            }
            return sum;
        }

        public int silence(int what) {
            if (none() || what < 0 || what > 1) {
                return -2;
            }
            boolean[] loud = new boolean[t.seconds];
            for (Bell b : play().bells) {
                loud[b.second] = true;
            }
            int most = 0;
            int from = -1;
            for (int s = 0; s < t.seconds; s++) {
                int n = 0;
                while (s + n < t.seconds && !loud[s + n]) {
                    n++;
                }
                if (n > most) {
                    most = n;
                    from = s;
                }
            }
            return what == 0 ? most : from;
        }

        public int spread(int h) {
            if (none() || badHour(h)) {
                return -2;
            }
            return noon(h, 3) == 0 ? -1 : noon(h, 2) - noon(h, 0);
        }

        public int without(int what) {
            if (none() || what < 0 || what > 6) {
                return LONE;
            }
            Told o = t.copy();
            switch (what) {
                case 0 -> o.fogs.clear();
                case 1 -> o.deafs.clear();
                case 2 -> o.funerals.clear();
                case 3 -> o.winds.clear();
                case 4 -> o.rests = new int[9];
                case 5 -> o.kind = new int[9];
                default -> o.late = new int[9];
            }
            return play(o).bells.size() - strikes();
        }

        public int unheard(int i) {
            return none() || badStrike(i) ? LONE : strikes() - new Play(t, s -> 0, i).bells.size();
        }

        public int key() {
            if (none()) {
                return -2;
            }
            int best = -1;
            int most = 0;
            int all = strikes();
            for (int i = 0; i < all; i++) {
                int fewer = all - new Play(t, s -> 0, i).bells.size();
                if (best < 0 || fewer > most) {
                    most = fewer;
                    best = i;
                }
            }
            return best;
        }

        public int behind(int a, int b, int what) {
            if (badChurch(a) || badChurch(b) || a == b || what < 0 || what > 1) {
                return LONE;
            }
            TreeMap<Integer, Integer> ones = new TreeMap<>();
            TreeMap<Integer, Integer> twos = new TreeMap<>();
            for (Bell x : play().bells) {
                if (x.church == a) {
                    ones.putIfAbsent(x.hour, x.second);
                }
                if (x.church == b) {
                    twos.putIfAbsent(x.hour, x.second);
                }
            }
            ones.keySet().retainAll(twos.keySet());
            int sum = 0;
            for (int h : ones.keySet()) {
                sum += ones.get(h) - twos.get(h);
            }
            return what == 0 ? sum : ones.size();
        }

        private int refuse(int slot) {
            if (none() || slot < 0 || slot > 3) {
                return -2;
            }
            if (rows[slot] == null) {
                return -6;
            }
            if (rows[slot].length % 3 != 0) {
                return -2;
            }
            for (int i = 0; i < rows[slot].length; i++) {
                long v = rows[slot][i];
                if (i % 3 == 0 && (v < 0 || v >= t.seconds) || i % 3 == 1 && (v < 0 || v >= t.churches)) {
                    return -2;
                }
            }
            return 0;
        }

        public int log(int slot) {
            if (refuse(slot) != 0) {
                return refuse(slot);
            }
            int sum = 0;
            for (int i = 0; i < rows[slot].length; i += 3) {
                sum += play().lastHour((int) rows[slot][i + 1], (int) rows[slot][i]) == rows[slot][i + 2] ? 0 : 1;
            }
            return sum;
        }

        private int oddIn(Play p, long[] row) {
            for (int i = 0; i < row.length; i += 3) {
                if (!p.struck(row[i], row[i + 1], row[i + 2])) {
                    return i / 3;
                }
            }
            return -1;
        }

        public int odd(int slot) {
            return refuse(slot) != 0 ? refuse(slot) : oddIn(play(), rows[slot]);
        }

        private List<int[]> beginnings(int slot, int limit, int hour) {
            List<int[]> all = new ArrayList<>();
            for (int c = 0; c < t.churches; c++) {
                for (int s = 0; s <= limit; s++) {
                    Told o = t.copy();
                    o.starts.clear();
                    o.starts.add(new int[] {c, s, hour});
                    if (oddIn(play(o), rows[slot]) < 0) {
                        all.add(new int[] {c, s});
                    }
                }
            }
            return all;
        }

        private int refuseStarts(int slot, int limit, int hour) {
            return badSecond(limit) || badHour(hour) ? -2 : refuse(slot);
        }

        public int began(int slot, int limit, int hour) {
            int no = refuseStarts(slot, limit, hour);
            return no != 0 ? no : beginnings(slot, limit, hour).size();
        }

        public int first(int slot, int limit, int hour, int what) {
            int no = what < 0 || what > 1 ? -2 : refuseStarts(slot, limit, hour);
            if (no != 0) {
                return no;
            }
            List<int[]> all = beginnings(slot, limit, hour);
            return all.isEmpty() ? -1 : all.get(0)[what];
        }

        public int sure(int slot, int limit, int hour) {
            int no = refuseStarts(slot, limit, hour);
            if (no != 0) {
                return no;
            }
            TreeSet<Integer> who = new TreeSet<>();
            for (int[] one : beginnings(slot, limit, hour)) {
                who.add(one[0]);
            }
            return who.size() == 1 ? who.first() : -1;
        }

        public int tune(int e, int n) {
            if (badEar(e) || n < 1 || n > 60) {
                return -2;
            }
            int was = t.ears.get(e)[2];
            t.ears.get(e)[2] = n;
            return was;
        }

        public int shift(int i, int s) {
            if (i < 0 || i >= t.starts.size() || badSecond(s)) {
                return -2;
            }
            int was = t.starts.get(i)[1];
            t.starts.get(i)[1] = s;
            return was;
        }

        public int soon(int i) {
            if (i < 0 || i >= t.starts.size()) {
                return -2;
            }
            int best = -1;
            int most = -1;
            for (int s = 0; s < t.seconds; s++) {
                Told o = t.copy();
                o.starts.get(i)[1] = s;
                int n = play(o).bells.size();
                if (n > most) {
                    most = n;
                    best = s;
                }
            }
            return best;
        }

        private Play draw(long seed, int n) {
            int[] more = new int[10];
            java.math.BigInteger x = java.math.BigInteger.valueOf(seed);
            for (int i = 0; i < 10; i++) {
                x = x.multiply(java.math.BigInteger.valueOf(1103515245)).add(java.math.BigInteger.valueOf(12345))
                    .mod(java.math.BigInteger.ONE.shiftLeft(31));
                more[i] = x.shiftRight(16).mod(java.math.BigInteger.valueOf(2 * n + 1)).intValue() - n;
            }
            return new Play(t, s -> more[s / 30], -1);
        }

        public int drawn(int seed, int n, int what) {
            if (none() || seed < 0 || seed > 2000000000 || n < 0 || n > 20 || what < 0 || what > 2) {
                return -2;
            }
            Play p = draw(seed, n);
            int bits = 0;
            int last = -1;
            for (Bell b : p.bells) {
                bits |= 1 << b.church;
                last = b.second;
            }
            return what == 0 ? p.bells.size() : what == 1 ? last : bits;
        }

        public int chance(int seed, int k, int n, int c, int h) {
            if (seed < 0 || seed > 2000000000 || k < 1 || k > 20 || n < 0 || n > 20 || badChurch(c) || badHour(h)) {
                return -2;
            }
            int sum = 0;
            for (int i = 0; i < k; i++) {
                for (Bell b : draw((long) seed + i, n).bells) {
                    if (b.church == c && b.hour == h) {
                        sum++;
                        break;
                    }
                }
            }
            return sum;
        }

        public int bets(int slot) {
            if (none() || slot < 0 || slot > 3) {
                return -2;
            }
            if (rows[slot] == null) {
                return -6;
            }
            if (rows[slot].length != t.churches) {
                return -7;
            }
            for (long v : rows[slot]) {
                if (v < 0 || v >= t.seconds) {
                    return -2;
                }
            }
            int best = -1;
            long near = 9999;
            for (int c = 0; c < t.churches; c++) {
                int at = when(c, 0);
                if (at >= 0 && Math.abs(at - rows[slot][c]) < near) {
                    near = Math.abs(at - rows[slot][c]);
                    best = c;
                }
            }
            return best;
        }

        public int count(int what) {
            int bits = 0;
            int cuts = 0;
            for (int c : t.muffled) {
                bits |= 1 << c;
            }
            for (int e : t.severed) {
                cuts |= 1 << e;
            }
            int rowsThere = 0;
            for (long[] r : rows) {
                rowsThere += r == null ? 0 : 1;
            }
            int[] all = {t.churches, t.seconds, t.ears.size(), t.starts.size(), t.lines, tape, bits, cuts, rowsThere};
            return what < 0 || what > 8 ? -1 : all[what];
        }

        public int fault(int what) {
            return what == 0 ? fault : what == 1 ? place : -1;
        }

        public int end(int n) {
            if (n < 0 || n > tape) {
                return -1;
            }
            tape = n;
            return n;
        }

        public int keep(int k) {
            if (k < 0 || k > 2) {
                return -2;
            }
            images[k] = t.copy();
            return 0;
        }

        public int back(int k) {
            if (k < 0 || k > 2) {
                return -2;
            }
            if (images[k] == null) {
                return -6;
            }
            t = images[k].copy();
            return 0;
        }

        public int row(int slot, int width, int n) {
            if (slot < 0 || slot > 3 || width < 0 || width > 3 || n > 60) {
                return -2;
            }
            if (n < 0) {
                return -3;
            }
            rows[slot] = new long[n];
            widths[slot] = width;
            return 0;
        }

        public int write(int slot, int i, long v) {
            if (slot < 0 || slot > 3) {
                return -2;
            }
            if (rows[slot] == null) {
                return -6;
            }
            if (i < 0 || i >= rows[slot].length) {
                return -7;
            }
            int left = 64 - (8 << widths[slot]);
            rows[slot][i] = v << left >> left;
            return 0;
        }

        public int paste(int slot, int i, int to, int k, int n) {
            if (slot < 0 || slot > 3 || to < 0 || to > 3) {
                return -2;
            }
            if (rows[slot] == null || rows[to] == null) {
                return -6;
            }
            if (widths[slot] != widths[to]) {
                return -8;
            }
            if (i < 0 || k < 0 || n < 0 || n > 60 || i > rows[slot].length - n || k > rows[to].length - n) {
                return -7;
            }
            long[] part = Arrays.copyOfRange(rows[slot], i, i + n);
            for (int j = 0; j < n; j++) {
                rows[to][k + j] = part[j];
            }
            return 0;
        }
    }

    // ---------------------------------------------------------------- random bays

    private final Random random;
    private final BellBay real;
    private final Model model;
    private final StringBuilder story = new StringBuilder();

    private BellBayModel(long seed, Told told, String text) throws Exception {
        random = new Random(seed);
        real = new BellBay();
        model = new Model();
        story.append("seed ").append(seed).append(": ").append(text.replace('\n', ' '));
        pour(real, text);
        due("bay()", real.bay(), told.lines);
        model.t = told;
    }

    static void pour(BellBay to, String text) {
        byte[] bytes = text.getBytes(java.nio.charset.StandardCharsets.ISO_8859_1);
        byte[] padded = Arrays.copyOf(bytes, (bytes.length + 19) / 20 * 20);
        java.nio.IntBuffer ints = java.nio.ByteBuffer.wrap(padded).asIntBuffer();
        int before = to.count(5);
        while (ints.hasRemaining()) {
            to.feed(ints.get(), ints.get(), ints.get(), ints.get(), ints.get());
        }
        to.end(before + bytes.length);
    }

    private void due(String call, long got, long want) {
        asked++;
        if (got != want) {
            wrong++;
            if (wrong < 20) {
                System.out.println(story + " :: " + call + " answered " + got + ", due is " + want);
            }
        }
    }

    private static int upTo(Random r, int most) {
        return r.nextInt(most + 1);
    }

    static Told randomTold(Random r, int mostChurches, int mostSeconds, int mostEars) {
        Told t = new Told();
        t.churches = 1 + r.nextInt(mostChurches);
        t.seconds = 1 + r.nextInt(mostSeconds);
        boolean quick = r.nextInt(3) == 0;
        for (int c = 0; c < t.churches; c++) {
            t.kind[c] = r.nextInt(5) < 3 ? 0 : 1 + r.nextInt(2);
            t.late[c] = t.kind[c] == 2 ? 1 + r.nextInt(quick ? 4 : 20) : 0;
            t.rests[c] = r.nextInt(2) == 0 ? 0 : r.nextInt(quick ? 4 : 30);
        }
        if (t.churches > 1) {
            int ears = r.nextInt(mostEars + 1);
            for (int e = 0; e < ears; e++) {
                int a = r.nextInt(t.churches);
                int b = (a + 1 + r.nextInt(t.churches - 1)) % t.churches;
                t.ears.add(new int[] {a, b, 1 + r.nextInt(quick ? 5 : 30), r.nextInt(3)});
            }
        }
        int spells = r.nextInt(5) == 0 ? 7 : 3;
        for (int i = r.nextInt(spells); i > 0; i--) {
            t.winds.add(new int[] {r.nextInt(t.seconds), r.nextInt(21) - 10});
        }
        for (int i = r.nextInt(spells); i > 0 && !t.ears.isEmpty(); i--) {
            t.fogs.add(spell(r, t.ears.size(), t.seconds));
        }
        for (int i = r.nextInt(spells); i > 0; i--) {
            t.deafs.add(spell(r, t.churches, t.seconds));
        }
        for (int i = r.nextInt(spells); i > 0; i--) {
            t.funerals.add(spell(r, t.churches, t.seconds));
        }
        int low = r.nextInt(4) == 0 ? 96 : 1;
        for (int i = r.nextInt(5); i > 0; i--) {
            int at = r.nextBoolean() ? r.nextInt(t.seconds) : r.nextInt(Math.min(5, t.seconds));
            t.starts.add(new int[] {r.nextInt(t.churches), at, low + r.nextInt(4)});
        }
        return t;
    }

    /** Many quick ears and no rests, so that the 300th strike comes ahead of the last second. */
    static Told crowdedTold(Random r) {
        Told t = randomTold(r, 1, 300, 0);
        boolean most = r.nextInt(5) == 0;
        t.churches = most ? 9 : 2 + r.nextInt(8);
        t.seconds = most ? 300 : Math.max(t.seconds, 120);
        t.kind = new int[9];
        t.late = new int[9];
        t.rests = new int[9];
        for (int e = most ? 12 : 6 + r.nextInt(7); e > 0; e--) {
            int a = r.nextInt(t.churches);
            t.ears.add(new int[] {a, (a + 1 + r.nextInt(t.churches - 1)) % t.churches, 1 + r.nextInt(3), r.nextInt(3)});
        }
        t.deafs.clear();
        t.funerals.clear();
        for (int i = r.nextInt(4) == 0 ? 6 : 1; i > 0; i--) {
            t.fogs.add(spell(r, t.ears.size(), t.seconds));
            t.deafs.add(spell(r, t.churches, t.seconds));
            t.funerals.add(spell(r, t.churches, t.seconds));
        }
        t.starts.clear();
        for (int i = 1 + r.nextInt(4); i > 0; i--) {
            t.starts.add(new int[] {r.nextInt(t.churches), r.nextInt(10), 1 + r.nextInt(3)});
        }
        return t;
    }

    private static int[] spell(Random r, int all, int seconds) {
        int from = r.nextInt(seconds);
        int to = Math.min(seconds - 1, from + r.nextInt(1 + seconds / (1 + r.nextInt(6))));
        return new int[] {r.nextInt(all), from, to};
    }

    static String textOf(Told t, Random r) {
        List<String> lines = new ArrayList<>();
        String[] kinds = {"eager", "proud", "late "};
        String[] ways = {"across", "along", "against"};
        int toldChurches = t.churches;
        while (toldChurches > 0 && t.kind[toldChurches - 1] == 0 && t.rests[toldChurches - 1] == 0) {
            toldChurches--;
        }
        for (int c = 0; c < toldChurches; c++) {
            lines.add("church " + kinds[t.kind[c]] + (t.kind[c] == 2 ? t.late[c] : "") + " rests " + t.rests[c]);
        }
        for (int[] e : t.ears) {
            lines.add("ear " + e[0] + " of " + e[1] + " takes " + e[2] + " " + ways[e[3]]);
        }
        for (int[] w : t.winds) {
            boolean back = w[1] < 0 || w[1] == 0 && r.nextBoolean();
            lines.add("wind at " + w[0] + (back ? " against " : " along ") + Math.abs(w[1]));
        }
        for (int[] f : t.fogs) {
            lines.add("fog on " + f[0] + " from " + f[1] + " to " + f[2]);
        }
        for (int[] f : t.deafs) {
            lines.add("deaf " + f[0] + " from " + f[1] + " to " + f[2]);
        }
        for (int[] f : t.funerals) {
            lines.add("funeral at " + f[0] + " from " + f[1] + " to " + f[2]);
        }
        for (int[] s : t.starts) {
            lines.add("starts " + s[0] + " at " + s[1] + " hour " + s[2]);
        }
        t.lines = lines.size() + 1;
        t.churchesTold = toldChurches;
        StringBuilder text = new StringBuilder("bay churches " + t.churches + " seconds " + t.seconds + ";");
        for (String line : lines) {
            text.append(r.nextInt(9) == 0 ? "\n" : "").append(r.nextInt(5) == 0 ? line.replace(" ", "  ") : line).append(";");
        }
        return text.toString();
    }

    // ---------------------------------------------------------------- random calls

    /** Of each call: kinds of its arguments. Those behind '!' are dear in the model. */
    private static final String[] CALLS = {
        "church c w4", "ear e w5", "takes e s", "strikes", "strike i w5", "lost w8", "hour c s", "many c", "when c w3",
        "led c d", "agree s", "noon h w4", "ship c c s", "quiet", "muffle c w2", "cut e w2", "!night s w2", "!spare c w2",
        "needs c", "harm e", "pan c s h", "boy s h", "gain n", "passes e w3", "wave i", "depth i", "source i", "lap c",
        "gap c", "waits c s", "rank c", "common s", "strayed s", "splits", "silence w2", "spread h", "without w7",
        "unheard i", "!key", "!wise", "behind c c w2", "log r", "tune e t", "shift x s", "!soon x", "!hush u",
        "!began r s h", "!first r s h w2", "!sure r s h", "odd r", "drawn z n w3", "chance z t n c h", "bets r", "count w9",
        "keep k", "back k", "row r w4 y", "write r y v", "paste r y r y y", "fault w2", "end m"
    };

    private long argument(String kind) {
        int n = kind.length() > 1 ? Integer.parseInt(kind.substring(1)) : 0;
        boolean out = random.nextInt(25) == 0;
        if (out) {
            int[] odd = {-1, -2, Integer.MIN_VALUE, Integer.MAX_VALUE, 9, 12, 300, 61, 100, 1000};
            return odd[random.nextInt(odd.length)];
        }
        switch (kind.charAt(0)) {
            case 'c': return random.nextInt(Math.max(1, model.t.churches));
            case 'e': return random.nextInt(Math.max(1, model.t.ears.size()));
            case 'm': return random.nextInt(model.tape + 1);
            case 's': return random.nextInt(Math.max(1, model.t.seconds));
            case 'i': return random.nextInt(Math.max(1, model.strikes()));
            case 'w': return random.nextInt(n);
            case 'd': return random.nextInt(6);
            case 'h': return randomHour();
            case 'n': return random.nextInt(45) - 22;
            case 'r': return random.nextInt(4);
            case 't': return 1 + random.nextInt(20);
            case 'u': return random.nextInt(2 + Math.max(0, model.strikes()));
            case 'x': return random.nextInt(Math.max(1, model.t.starts.size()));
            case 'z': return random.nextInt(4) == 0 ? 2000000000 - random.nextInt(3) : random.nextInt(2000000000);
            case 'k': return random.nextInt(3);
            case 'y': return random.nextInt(10);
            default: return random.nextLong() >> random.nextInt(64);
        }
    }

    private int randomHour() {
        List<Bell> bells = Model.play(model.t).bells;
        return bells.isEmpty() || random.nextInt(4) == 0 ? 1 + random.nextInt(99) : bells.get(random.nextInt(bells.size())).hour;
    }

    private static Object fit(Class<?> type, long v) {
        if (type == int.class) {
            return (int) v;
        }
        return v;
    }

    private void call(String line) throws Exception {
        String[] parts = (line.startsWith("!") ? line.substring(1) : line).split(" ");
        Method one = method(BellBay.class, parts[0]);
        Method other = method(Model.class, parts[0]);
        Object[] values = new Object[parts.length - 1];
        for (int i = 0; i < values.length; i++) {
            values[i] = fit(one.getParameterTypes()[i], argument(parts[i + 1]));
        }
        String told = parts[0] + Arrays.toString(values);
        due(told, (int) one.invoke(real, values), (int) other.invoke(model, values));
        if ("muffle cut tune shift keep back row write paste end".contains(parts[0])) {
            story.append(' ').append(told);
        }
    }

    private static Method method(Class<?> of, String name) {
        for (Method m : of.getMethods()) {
            if (m.getName().equals(name)) {
                return m;
            }
        }
        throw new IllegalStateException("no method " + name);
    }

    /** A row of strikes as they are (or nearly so), so that began, odd, log and bets have something to say. */
    private void layRow() {
        int slot = random.nextInt(4);
        int width = random.nextInt(4);
        List<Bell> bells = Model.play(model.t).bells;
        List<Long> row = new ArrayList<>();
        if (random.nextInt(3) == 0) {
            for (int c = 0; c < model.t.churches; c++) {
                row.add((long) random.nextInt(model.t.seconds));
            }
        } else {
            for (int i = random.nextInt(4); i > 0 && !bells.isEmpty(); i--) {
                Bell b = bells.get(random.nextInt(bells.size()));
                row.add((long) b.second);
                row.add((long) b.church);
                row.add((long) b.hour + (random.nextInt(9) == 0 ? 1 : 0));
            }
        }
        due("row", real.row(slot, width, row.size()), model.row(slot, width, row.size()));
        for (int i = 0; i < row.size(); i++) {
            due("write", real.write(slot, i, row.get(i)), model.write(slot, i, row.get(i)));
        }
        story.append(" row ").append(slot).append(' ').append(width).append(' ').append(row);
    }

    /** Strikes that come of one start alone, or nearly so: by whom did they begin? */
    private void askWhoBegan() {
        int church = random.nextInt(Math.max(1, model.t.churches));
        int second = random.nextInt(Math.max(1, model.t.seconds / 2));
        int hour = 1 + random.nextInt(99);
        Told alone = model.t.copy();
        alone.starts.clear();
        alone.starts.add(new int[] {church, second, hour});
        List<Bell> bells = Model.play(alone).bells;
        if (bells.isEmpty()) {
            return;
        }
        int slot = random.nextInt(4);
        int n = 3 * (1 + random.nextInt(4));
        due("row", real.row(slot, 1, n), model.row(slot, 1, n));
        for (int i = 0; i < n; i += 3) {
            Bell b = bells.get(bells.size() - 1 - random.nextInt(Math.min(bells.size(), 1 + random.nextInt(8))));
            long[] three = {b.second, b.church, b.hour + (random.nextInt(25) == 0 ? 1 : 0)};
            for (int k = 0; k < 3; k++) {
                due("write", real.write(slot, i + k, three[k]), model.write(slot, i + k, three[k]));
            }
        }
        int limit = random.nextBoolean() ? second : random.nextInt(model.t.seconds);
        String told = "(" + slot + ", " + limit + ", " + hour + ") of " + Arrays.toString(model.rows[slot]);
        due("began" + told, real.began(slot, limit, hour), model.began(slot, limit, hour));
        due("first" + told, real.first(slot, limit, hour, 0), model.first(slot, limit, hour, 0));
        due("first" + told, real.first(slot, limit, hour, 1), model.first(slot, limit, hour, 1));
        due("sure" + told, real.sure(slot, limit, hour), model.sure(slot, limit, hour));
        due("odd" + told, real.odd(slot), model.odd(slot));
    }

    private void ask(int calls, boolean dear) throws Exception {
        for (int i = 0; i < calls; i++) {
            if (random.nextInt(20) == 0) {
                layRow();
            }
            String line = CALLS[random.nextInt(CALLS.length)];
            if (dear || !line.startsWith("!")) {
                call(line);
            }
        }
    }

    /** Another BAY on an object that had one, no BAY, or a FAULT; the TAPE may have blanks ahead of it. */
    private void tellAnew(int kind) {
        if (kind == 0) {
            due("feed", real.feed(0x20202020, 0x0a202020, 0x20202020, 0x20202020, 0x2020200a), model.tape += 20);
            story.append(" feed of blanks");
            return;
        }
        Told told = kind == 1 ? new Told() : randomTold(random, 5, 60, 6);
        String text = kind == 1 ? "\n " : textOf(told, random);
        int at = model.tape + text.length();
        model.fault = 0;
        model.place = -1;
        if (kind > 4) {
            String[] wrongLines = {"?", "bay churches 1 seconds 9;", "ear", "deaf " + told.churches, "fog on 12 from 0 to 0;",
                "church eager rests 0;".repeat(10), "wind at " + told.seconds, "ear 0 of 0"};
            int[] faults = {1, 1, 1, 2, 2, 3, 2, 2};
            int[] places = {0, 0, 3, 5, 7, 21 * (told.churches - told.churchesTold), 8, 9};
            int i = random.nextInt(faults.length);
            boolean seventh = i == 3 && told.deafs.size() == 6 || i == 4 && told.fogs.size() == 6 || i == 6 && told.winds.size() == 6;
            text += wrongLines[i];
            model.fault = seventh ? 3 : faults[i];
            model.place = seventh ? at : at + places[i];
        }
        pour(real, text);
        story.append(" / ").append(text.replace('\n', ' ')).append(" / ");
        model.tape = 0;
        due("bay() anew", real.bay(), model.fault != 0 ? -4 : told.lines);
        if (model.fault == 0) {
            model.t = told;
        }
    }

    private static void lives(int from, int to) throws Exception {
        for (int seed = from; seed < to; seed++) {
            Random r = new Random(seed * 7919L);
            Told told = randomTold(r, 4, 40, 5);
            BellBayModel one = new BellBayModel(seed, told, textOf(told, r));
            for (int i = 0; i < 8; i++) {
                one.ask(12, i % 4 == 0);
                one.askWhoBegan();
                one.tellAnew(one.random.nextInt(9));
            }
        }
    }

    /** Calls of a new object's life are 512; what is fed and laid in rows counts too. */
    private static void runs(int from, int to, int churches, int seconds, int ears) throws Exception {
        for (int seed = from; seed < to; seed++) {
            Random r = new Random(seed * 7919L);
            Told told = randomTold(r, churches, seconds, ears);
            String text = textOf(told, r);
            if (text.length() <= 2000) {
                new BellBayModel(seed, told, text).ask(120, told.ears.size() < 9 || seed % 20 == 0);
            }
        }
    }

    private static void crowdedRuns(int from, int to) throws Exception {
        int full = 0;
        for (int seed = from; seed < to; seed++) {
            Random r = new Random(seed * 7919L);
            Told told = crowdedTold(r);
            String text = textOf(told, r);
            full += Model.play(told).bells.size() == 300 ? 1 : 0;
            new BellBayModel(seed, told, text).ask(120, false);
        }
        if (full < (to - from) / 4) {
            wrong++;
            System.out.println("only " + full + " bays come to the 300th strike");
        }
    }

    public static void main(String[] args) throws Exception {
        runs(0, 700, 4, 40, 5);
        runs(1000, 1200, 9, 60, 8);
        runs(2000, 2030, 9, 120, 12);
        runs(3000, 3040, 3, 300, 4);
        crowdedRuns(4000, 4120);
        lives(5000, 5400);
        System.out.println(asked + " answers asked, " + wrong + " not as due");
        if (wrong != 0) {
            System.exit(1);
        }
    }
}
