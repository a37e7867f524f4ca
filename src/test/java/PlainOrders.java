import java.math.BigInteger;
import java.util.Set;

/** The instructions of the plain model, each as the document words it. */
final class PlainOrders {
    private static final String WITH_WORD =
        " 0101 0102 0104 0106 0107 0113 0114 0152 0320 0321 0322 0324 0325 0346 0356 0362 0374 ";
    private static final String WITHOUT_WORD = " 0120 0121 0122 0124 0126 0127 0172 0200 0203 0214 0215 0216"
        + " 0217 0224 0225 0226 0227 0234 0235 0236 0237 0364 0365 1050 1066 1104 1117 1121 1300 ";

    private PlainOrders() {
    }

    static void perform(PlainModel x, PlainModel.J j, BigInteger word, Set<Integer> touched) {
        BigInteger bits = word.mod(BigInteger.ONE.shiftLeft(48));
        int f = bits.shiftRight(38).intValue();
        int a = bits.shiftRight(31).intValue() & 127;
        int m = bits.shiftRight(24).intValue() & 127;
        int n = PlainModel.cut(bits, 24).intValue();
        String octal = " " + (f < 8 ? "000" : f < 64 ? "00" : f < 512 ? "0" : "") + Integer.toOctalString(f) + " ";
        if (!WITH_WORD.contains(octal) && !WITHOUT_WORD.contains(octal)) {
            throw new PlainModel.Stop(1);
        }
        long sum = (long) n + PlainModel.b(j, m) + (f >= 192 && f <= 255 ? PlainModel.b(j, a) : 0);
        int address = PlainModel.cut(PlainModel.big(sum), 24).intValue();
        if (WITH_WORD.contains(octal)) {
            withWord(j, octal.trim(), a, x.fetch(j, address, touched), address);
        } else if (f >= 512) {
            extracode(j, octal.trim(), a);
        } else {
            withoutWord(j, octal.trim(), new int[] {a, m, n, address});
        }
    }

    private static void put(PlainModel.J j, int b, BigInteger value) {
        j.b.put(b, PlainModel.cut(value, 24).intValue());
    }

    private static void withWord(PlainModel.J j, String f, int a, BigInteger s, int address) {
        BigInteger b = PlainModel.big(PlainModel.b(j, a));
        BigInteger put = null;
        BigInteger acc = null;
        BigInteger stored = null;
        switch (f) {
            case "0101": put = s; break;
            case "0102": put = b.subtract(s); break;
            case "0104": put = b.add(s); break;
            case "0106": put = b.xor(s); break;
            case "0107": put = b.and(s); break;
            case "0113": stored = b; break;
            case "0114": stored = s.add(b); break;
            case "0152": j.t = b.subtract(s).signum(); break;
            case "0320": acc = j.a.add(s); break;
            case "0321": acc = j.a.subtract(s); break;
            case "0322": acc = s.subtract(j.a); break;
            case "0324": acc = s; break;
            case "0325": acc = s.negate(); break;
            case "0346": stored = j.a; acc = BigInteger.ZERO; break;
            case "0356": stored = j.a; break;
            case "0362": acc = j.a.multiply(s); break;
            default:
                if (s.signum() == 0) {
                    throw new PlainModel.Stop(5);
                }
                acc = j.a.divide(s);
                break;
        }
        if (put != null) {
            put(j, a, put);
        }
        if (acc != null) {
            j.a = PlainModel.cut(acc, 48);
        }
        if (stored != null) {
            j.store.put(address, PlainModel.cut(stored, 48));
        }
    }

    private static void withoutWord(PlainModel.J j, String f, int[] amns) {
        int a = amns[0];
        int bm = PlainModel.b(j, amns[1]);
        BigInteger n = PlainModel.big(amns[2]);
        BigInteger s = PlainModel.big(amns[3]);
        BigInteger b = PlainModel.big(PlainModel.b(j, a));
        switch (f) {
            case "0120": put(j, a, s.subtract(b)); break;
            case "0121": put(j, a, s); break;
            case "0122": put(j, a, b.subtract(s)); break;
            case "0124": put(j, a, b.add(s)); break;
            case "0126": put(j, a, b.xor(s)); break;
            case "0127": put(j, a, b.and(s)); break;
            case "0172": j.t = b.compareTo(s); break;
            case "0200":
            case "0203":
                if (bm != 0) {
                    put(j, amns[1], PlainModel.big(f.equals("0200") ? bm + 1 : bm - 1));
                    put(j, a, n);
                }
                break;
            case "0364": j.a = PlainModel.cut(j.a.multiply(PlainModel.big(8)), 48); break;
            case "0365": j.a = j.a.subtract(j.a.mod(PlainModel.big(8))).divide(PlainModel.big(8)); break;
            default:
                char row = f.charAt(2);
                int sign = row == '1' ? Integer.signum(bm) : row == '2' ? j.t : j.a.signum();
                boolean so = switch (f.charAt(3)) {
                    case '4' -> sign == 0;
                    case '5' -> sign != 0;
                    case '6' -> sign >= 0;
                    default -> sign < 0;
                };
                if (so) {
                    put(j, a, row == '1' ? n : s);
                }
                break;
        }
    }

    private static void extracode(PlainModel.J j, String f, int a) {
        switch (f) {
            case "1050":
                if (j.tape.isEmpty()) {
                    throw new PlainModel.Stop(4);
                }
                j.a = j.tape.removeFirst();
                break;
            case "1066":
                if (j.paper.size() == 200) {
                    throw new PlainModel.Stop(6);
                }
                j.paper.add(j.a);
                break;
            case "1104": put(j, a, PlainModel.big(j.a.mod(BigInteger.ONE.shiftLeft(48)).bitCount())); break;
            case "1117": j.state = 3; break;
            case "1121": put(j, a, PlainModel.big(j.done + 1)); break;
            default:
                if (j.a.signum() < 0) {
                    throw new PlainModel.Stop(5);
                }
                j.a = j.a.sqrt();
                break;
        }
    }
}
