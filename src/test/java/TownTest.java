/** Promises 1 to 7: a new object, the text and the town. */
public final class TownTest {
    private static final Due DUE = new Due();

    public static void main(String[] args) {
        newObject();
        write();
        wipe();
        faultAtEnds();
        faultAtBytes();
        faultOfAllSigns();
        faultOfWhatIsToldTwice();
        town();
        townForgets();
        wants();
        about();
        DUE.end();
    }

    private static void newObject() {
        UnsoldAtEleven x = new UnsoldAtEleven();
        int[] about = {1, 1, 1, 1, 10, 20, 5, -9, -1, -1};
        for (int what = 0; what <= 9; what++) {
            DUE.of("1 about(" + what + ")", x.about(what), about[what]);
        }
        for (int kind = 0; kind < 3; kind++) {
            DUE.of("1 b", x.wants(0, kind, 0), 1);
            DUE.of("1 x", x.wants(0, kind, 1), 5);
        }
        for (int what = 0; what <= 3; what++) {
            DUE.of("1 count(" + what + ")", x.count(what), 0);
        }
        for (int what = 0; what <= 2; what++) {
            DUE.of("1 ended(" + what + ")", x.ended(what), 0);
        }
        DUE.of("1 ended(3)", x.ended(3), 6);
        DUE.of("1 ended(4)", x.ended(4), 100000);
        DUE.of("1 habit", x.habit(0), 5);
        DUE.of("1 day", x.day(0), 0);
        DUE.of("1 more", x.more(0, 0), 0);
        DUE.of("1 van", x.van(0, 0, 0), 0);
        DUE.of("1 gives", x.gives(0, 0), 0);
        DUE.of("1 again(0)", x.again(0), -3);
        DUE.of("1 again(1)", x.again(1), -3);
        DUE.of("1 fault", x.fault(), 0);
    }

    private static void write() {
        UnsoldAtEleven x = new UnsoldAtEleven();
        DUE.of("2 no byte", x.write(0, 'N'), -2);
        DUE.of("2 nine bytes", x.write(9, 'N'), -2);
        DUE.of("2 less than none", x.write(-1, 'N'), -2);
        DUE.of("2 most", x.write(Integer.MAX_VALUE, 'N'), -2);
        DUE.of("2 least", x.write(Integer.MIN_VALUE, 'N'), -2);
        DUE.of("2 nothing came", x.count(0), 0);
        DUE.of("2 the lowest alone", x.write(1, 0x5858_5858_5858_584EL), 1);
        DUE.of("2 the highest first", x.write(4, 0xFFFF_FFFF_0000_0000L | '2' << 24 | 'K' << 16 | '0' << 8 | '7'), 5);
        DUE.of("2 it stands", x.fault(), -9);
        DUE.of("2 parts", x.town(), 2);
        DUE.of("2 corners", x.about(0), 2);
        DUE.of("2 share", x.about(1), 7);
        DUE.of("2 a byte above 127", x.write(1, 0xFF), 6);
        DUE.of("2 is read as such", x.fault(), 5);
        for (int length = 14; length <= 62; length += 8) {
            DUE.of("2 eight", x.write(8, Long.MIN_VALUE), length);
        }
        DUE.of("2 three more", x.write(3, 0), -4);
        DUE.of("2 OUTSIDE ahead of FULL", x.write(9, 0), -2);
        DUE.of("2 it is as long", x.count(0), 62);
        DUE.of("2 two more", x.write(2, 0), 64);
        DUE.of("2 one more", x.write(1, 0), -4);
        DUE.of("2 64", x.count(0), 64);
    }

    private static void wipe() {
        UnsoldAtEleven x = Due.townOf("N2");
        DUE.of("3 wipe", x.wipe(), 2);
        DUE.of("3 again", x.wipe(), 0);
        DUE.of("3 empty", x.count(0), 0);
        DUE.of("3 the town stays", x.about(0), 2);
        DUE.of("3 written anew", x.write(2, 'N' << 8 | '3'), 2);
        DUE.of("3 fault", x.fault(), -9);
        x.wipe();
        Due.write(x, "N1K01");
        x.wipe();
        Due.write(x, "N1K");
        DUE.of("3 what was wiped is not read", x.fault(), 3);
    }

    private static void fault(String text, int place) {
        DUE.of("4 fault of " + text, Due.faultOf(text), place);
    }

    private static void faultAtEnds() {
        String whole = "N3K01W0000G01C00P00R00";
        int[] ends = {0, 2, 5, 10, 13, 16, 19, 22};
        for (int length = 0; length <= whole.length(); length++) {
            int place = length;
            for (int end : ends) {
                place = end == length && end > 0 ? -9 : place;
            }
            fault(whole.substring(0, length), place);
        }
    }

    private static void faultAtBytes() {
        String[] texts = {"K", "n1", "N0", "N4", "N:", "NN", "N1X", "N1k", "N1 ", "N1\0", "N1K3", "N1KK", "N1K0", "N1K00",
            "N1K0:", "N1W1", "N2W2", "N1W03", "N1W004", "N1W0039", "N1W000:", "N1W000/", "N1G", "N2G2", "N2G00", "N2G11",
            "N2G02", "N3G03", "N3G02", "N1CA", "N1C0A", "N1PA", "N1P1A", "N1RR", "N1R9R", "N1C12X", "N10", "XN1"};
        int[] places = {0, 0, 1, 1, 1, 1, 2, 2, 2, 2, 3, 3, 4, 4,
            4, 3, 3, 4, 5, -9, 6, 6, 2, 3, 4, 4,
            4, 4, -9, 3, 4, 3, 4, 3, 4, 5, 2, 0};
        for (int i = 0; i < texts.length; i++) {
            fault(texts[i], places[i]);
        }
    }

    /** Behind a start that can be a town, each sign but those that are told. */
    private static void faultOfAllSigns() {
        String[] starts = {"", "N", "N1", "N2", "N1K", "N1K0", "N3W", "N2W", "N2W1", "N2W10", "N2W103", "N3G", "N3G1",
            "N2G1", "N2C", "N2C0", "N2P", "N2P9", "N2R", "N2R5", "N1C10", "N1K02K19K25"};
        String[] signs = {"N", "123", "KWCPR", "KWGCPR", "012", "123456789", "012", "01", "012", "0123", "0123456789",
            "012", "02", "0", "0123456789", "0123456789", "0123456789", "0123456789", "0123456789", "0123456789", "KWPR",
            "WCPR"};
        for (int i = 0; i < starts.length; i++) {
            for (char sign = 0; sign < 256; sign++) {
                boolean isFault = Due.faultOf(starts[i] + sign) == starts[i].length();
                DUE.of("4 fault behind " + starts[i] + " by " + (int) sign, isFault ? 1 : 0,
                        signs[i].indexOf(sign) >= 0 ? 0 : 1);
            }
        }
    }

    private static void faultOfWhatIsToldTwice() {
        fault("N1N", 2);
        fault("N1N1", 2);
        fault("N1K01K0", 6);
        fault("N1K01K1", 7);
        fault("N1K01K11K2", 10);
        fault("N1K11K21K", 9);
        fault("N1K11K21K0", 10);
        fault("N1K11K21K01", -9);
        fault("N1K01K11K21K", 11);
        fault("N2W0000W00", 9);
        fault("N2W0000W01", 10);
        fault("N2W0000W0100W0200W", 18);
        fault("N2W0000W0100W0200W0", 18);
        fault("N2W0000W0100W0200W1", 19);
        fault("N1W0000W0100W0200W", 17);
        fault("N2W0000W0100W0200W1000W1100W1200W", 32);
        fault("N3W0000W0100W0200W1000W1100W1200W", 33);
        fault("N2G01G0", 6);
        fault("N2G01G10", -9);
        fault("N2G01G10G", 8);
        fault("N3G01G10G", 9);
        fault("N3G01G10G21G", 11);
        fault("N1C10C", 5);
        fault("N1P10P", 5);
        fault("N1R10R", 5);
        fault("N1C10P10R10", -9);
    }

    private static void town() {
        UnsoldAtEleven x = new UnsoldAtEleven();
        DUE.of("5 an empty text", x.town(), -3);
        Due.write(x, "N3K02K25W0013W2029G01G12C08P25R04");
        DUE.of("5 parts", x.town(), 10);
        DUE.of("5 the text stays", x.count(0), 33);
        DUE.of("5 again", x.town(), 10);
        DUE.of("5 corners", x.about(0), 3);
        x.write(1, 'K');
        DUE.of("5 not at its end", x.town(), -3);
        x.wipe();
        x.write(2, 'N' << 8 | '4');
        DUE.of("5 a fault", x.town(), -3);
        DUE.of("5 the town stays", x.about(0), 3);
        DUE.of("5 its wants stay", x.wants(2, 0, 1), 9);
        DUE.of("5 what it brings stays", x.about(5), 25);
        x.wipe();
        x.write(2, 'N' << 8 | '1');
        DUE.of("5 one part", x.town(), 1);
        DUE.of("5 one corner", x.about(0), 1);
        DUE.of("5 b as at first", x.wants(0, 0, 1), 5);
        DUE.of("5 share as at first", x.about(1), 1);
        DUE.of("5 price as at first", x.about(5), 20);
        DUE.of("5 nobody goes on", x.about(7), -9);
        DUE.of("5 sold anew", x.sold(0, 9, true), 273);
    }

    private static void townForgets() {
        UnsoldAtEleven x = Due.townOf("N2W0020");
        tellMuch(x);
        x.write(1, 'X');
        DUE.of("5 refused", x.town(), -3);
        DUE.of("5 seen stays", x.count(1), 1);
        DUE.of("5 orders stay", x.count(2), 1);
        DUE.of("5 gives stays", x.count(3), 7);
        DUE.of("5 habit stays", x.habit(0), 6);
        DUE.of("5 kept stays", x.again(1), 7);
        x.wipe();
        Due.write(x, "N2W0020");
        DUE.of("5 told anew", x.town(), 2);
        for (int what = 1; what <= 3; what++) {
            DUE.of("5 count(" + what + ") is gone", x.count(what), 0);
        }
        DUE.of("5 kept is gone", x.again(0), -3);
        DUE.of("5 kept is gone", x.again(1), -3);
        DUE.of("5 habit", x.habit(0), 5);
        DUE.of("5 habit", x.habit(1), 5);
        DUE.of("5 bits", x.more(1, 0), 0);
        DUE.of("5 day", x.day(0), 0);
        DUE.of("5 van stays where it is", x.ended(2), 0);
        DUE.of("5 van", x.van(9, 0, 0), 0);
        DUE.of("5 it has no rule", x.ended(2), 9);
        DUE.of("5 nothing seen", x.likely(0, false), 3);
    }

    private static void tellMuch(UnsoldAtEleven x) {
        x.day(2);
        x.gives(0, 3);
        x.gives(1, 4);
        x.more(1, 9);
        x.van(9, 1, 5);
        x.order(2, 1, 1);
        x.see(0, 2);
        x.days(1);
        x.keep(0);
        x.keep(1);
    }

    private static void wants() {
        UnsoldAtEleven x = Due.townOf("N2W0130W1109W1227");
        int[][] due = {{1, 5, 3, 0, 1, 5}, {1, 5, 0, 9, 2, 7}};
        for (int corner = 0; corner < 2; corner++) {
            for (int i = 0; i < 6; i++) {
                DUE.of("6 wants " + corner + " " + i, x.wants(corner, i / 2, i % 2), due[corner][i]);
            }
        }
        int[][] refused = {{2, 0, 0, -1}, {-1, 0, 0, -1}, {0, 3, 0, -1}, {0, -1, 0, -1}, {0, 0, 2, -2}, {0, 0, -1, -2},
            {2, 0, 2, -1}, {0, 3, 2, -1}, {Integer.MAX_VALUE, Integer.MIN_VALUE, 0, -1}, {0, Integer.MAX_VALUE, 0, -1}};
        for (int[] r : refused) {
            DUE.of("6 refused", x.wants(r[0], r[1], r[2]), r[3]);
        }
    }

    private static void about() {
        UnsoldAtEleven x = Due.townOf("N3R07K23P99C01K09G20G02");
        int[] due = {3, 9, 1, 3, 1, 99, 7, 2, -9, 0, -2};
        for (int what = 0; what <= 10; what++) {
            DUE.of("7 about(" + what + ")", x.about(what), due[what]);
        }
        DUE.of("7 about(-1)", x.about(-1), -2);
        DUE.of("7 two corners", Due.townOf("N2G10").about(8), 0);
        DUE.of("7 no third", Due.townOf("N2G10").about(9), -1);
    }
}
